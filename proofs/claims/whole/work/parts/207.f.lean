/-! ===== what the methods do, as functions, and that the small machine does it (printed by wip/whole/gen4.py) ===== -/
def F_m_wish_62 (k31 : Int64 → Int32 → Int32 → Int32 → Sto → Option (Int32 × Sto)) (x1 : Int64) (x3 : Int32) (x5 : Int32) (s0 : Int32) (M : Sto) : Option (Int32 × Sto) := k31 x1 x3 s0 (x5 + (1 : Int32)) M
set_option maxRecDepth 100000 in
theorem X_m_wish_62 {nL : Nat} {xs : Nat → Int32} {S : Sto} {O : Sto} {d : Nat} (hd : 3 ≤ d) {k31 : Int64 → Int32 → Int32 → Int32 → Sto → Option (Int32 × Sto)} (hk31 : ∀ (x1 : Int64) (x3 : Int32) (x4 : Int32) (x5 : Int32) (M : Sto) (r : Int32) (M' : Sto), k31 x1 x3 x4 x5 M = some (r, M') → EX nL xs 0 MI_171 d 31 [some (.ref 1000), some (.long x1), none, some (.int x3), some (.int x4), some (.int x5)] [] (S, M, O) (.inl (some (.int r))) (S, M', O)) : ∀ (x1 : Int64) (x3 : Int32) (x5 : Int32) (s0 : Int32) (M : Sto) (r : Int32) (M' : Sto), F_m_wish_62 k31 x1 x3 x5 s0 M = some (r, M') → EX nL xs 0 MI_171 d 62 [some (.ref 1000), some (.long x1), none, some (.int x3), none, some (.int x5)] [.int s0] (S, M, O) (.inl (some (.int r))) (S, M', O) := by
  intro x1 x3 x5 s0 M r M' hF
  unfold F_m_wish_62 at hF
  refine Ex_go 3 (pc' := 31) (L' := [some (.ref 1000), some (.long x1), none, some (.int x3), some (.int s0), some (.int (x5 + (1 : Int32)))]) (st' := []) (σ' := (S, M, O)) (rfl) ?_
  exact Ex_mono (L := [some (.ref 1000), some (.long x1), none, some (.int x3), some (.int s0), some (.int (x5 + (1 : Int32)))]) (Le_s (Le_s (Le_n (Le_s (Le_s (Le_s (Le_0))))))) (hk31 _ _ _ _ _ _ _ hF) (Nat.le_refl _) (by omega)
def F_m_wish_57 (k31 : Int64 → Int32 → Int32 → Int32 → Sto → Option (Int32 × Sto)) (x1 : Int64) (x3 : Int32) (x5 : Int32) (M : Sto) : Option (Int32 × Sto) := F_m_wish_62 k31 x1 x3 x5 (1 : Int32) M
set_option maxRecDepth 100000 in
theorem X_m_wish_57 {nL : Nat} {xs : Nat → Int32} {S : Sto} {O : Sto} {d : Nat} (hd : 3 ≤ d) {k31 : Int64 → Int32 → Int32 → Int32 → Sto → Option (Int32 × Sto)} (hk31 : ∀ (x1 : Int64) (x3 : Int32) (x4 : Int32) (x5 : Int32) (M : Sto) (r : Int32) (M' : Sto), k31 x1 x3 x4 x5 M = some (r, M') → EX nL xs 0 MI_171 d 31 [some (.ref 1000), some (.long x1), none, some (.int x3), some (.int x4), some (.int x5)] [] (S, M, O) (.inl (some (.int r))) (S, M', O)) : ∀ (x1 : Int64) (x3 : Int32) (x5 : Int32) (M : Sto) (r : Int32) (M' : Sto), F_m_wish_57 k31 x1 x3 x5 M = some (r, M') → EX nL xs 0 MI_171 d 57 [some (.ref 1000), some (.long x1), none, some (.int x3), none, some (.int x5)] [] (S, M, O) (.inl (some (.int r))) (S, M', O) := by
  intro x1 x3 x5 M r M' hF
  unfold F_m_wish_57 at hF
  refine Ex_go 2 (pc' := 62) (L' := [some (.ref 1000), some (.long x1), none, some (.int x3), none, some (.int x5)]) (st' := [.int (1 : Int32)]) (σ' := (S, M, O)) (rfl) ?_
  exact Ex_mono (L := [some (.ref 1000), some (.long x1), none, some (.int x3), none, some (.int x5)]) (Le_s (Le_s (Le_n (Le_s (Le_n (Le_s (Le_0))))))) (X_m_wish_62 hd hk31 _ _ _ _ _ _ _ hF) (Nat.le_refl _) (by omega)
def F_m_wish_125 (s1 : Int32) (s2 : Int32) (M : Sto) : Option (Int32 × Sto) := some ((gi (si M 1020 (s1 + s2)) 1019), (si M 1020 (s1 + s2)))
set_option maxRecDepth 100000 in
theorem X_m_wish_125 {nL : Nat} {xs : Nat → Int32} {S : Sto} {O : Sto} {d : Nat} (hd : 3 ≤ d) : ∀ (s1 : Int32) (s2 : Int32) (M : Sto) (r : Int32) (M' : Sto), F_m_wish_125 s1 s2 M = some (r, M') → EX nL xs 0 MI_171 d 125 [some (.ref 1000), none, none, none, none, none] [.int s2, .int s1, .ref 1000] (S, M, O) (.inl (some (.int r))) (S, M', O) := by
  intro s1 s2 M r M' hF
  unfold F_m_wish_125 at hF
  refine Ex_go 4 (pc' := 133) (L' := [some (.ref 1000), none, none, none, none, none]) (st' := [.int (gi (si M 1020 (s1 + s2)) 1019)]) (σ' := (S, (si M 1020 (s1 + s2)), O)) (rfl) ?_
  cases hF
  exact Ex_fin rfl
def F_m_wish_31 : Nat → Int64 → Int32 → Int32 → Int32 → Sto → Option (Int32 × Sto)
  | 0, _, _, _, _, _ => none
  | n + 1, x1, x3, x4, x5, M => if (gi M 1019) ≤ x5 then if x4 = 0 then ck (ib (gi M 1019) 12) (ck (ib (gi (ul M 1016 (vp_updL (al M 1016) (Int32.toNatClampNeg (gi M 1019)) x1)) 1019) 12) (if x3 = 0 then F_m_wish_125 (gi (si (ui (ul M 1016 (vp_updL (al M 1016) (Int32.toNatClampNeg (gi M 1019)) x1)) 1018 (upd (ai (ul M 1016 (vp_updL (al M 1016) (Int32.toNatClampNeg (gi M 1019)) x1)) 1018) (Int32.toNatClampNeg (gi (ul M 1016 (vp_updL (al M 1016) (Int32.toNatClampNeg (gi M 1019)) x1)) 1019)) (vp_nar .boolean x3))) 1019 ((gi (ui (ul M 1016 (vp_updL (al M 1016) (Int32.toNatClampNeg (gi M 1019)) x1)) 1018 (upd (ai (ul M 1016 (vp_updL (al M 1016) (Int32.toNatClampNeg (gi M 1019)) x1)) 1018) (Int32.toNatClampNeg (gi (ul M 1016 (vp_updL (al M 1016) (Int32.toNatClampNeg (gi M 1019)) x1)) 1019)) (vp_nar .boolean x3))) 1019) + (1 : Int32))) 1020) (0 : Int32) (si (ui (ul M 1016 (vp_updL (al M 1016) (Int32.toNatClampNeg (gi M 1019)) x1)) 1018 (upd (ai (ul M 1016 (vp_updL (al M 1016) (Int32.toNatClampNeg (gi M 1019)) x1)) 1018) (Int32.toNatClampNeg (gi (ul M 1016 (vp_updL (al M 1016) (Int32.toNatClampNeg (gi M 1019)) x1)) 1019)) (vp_nar .boolean x3))) 1019 ((gi (ui (ul M 1016 (vp_updL (al M 1016) (Int32.toNatClampNeg (gi M 1019)) x1)) 1018 (upd (ai (ul M 1016 (vp_updL (al M 1016) (Int32.toNatClampNeg (gi M 1019)) x1)) 1018) (Int32.toNatClampNeg (gi (ul M 1016 (vp_updL (al M 1016) (Int32.toNatClampNeg (gi M 1019)) x1)) 1019)) (vp_nar .boolean x3))) 1019) + (1 : Int32))) else F_m_wish_125 (gi (si (ui (ul M 1016 (vp_updL (al M 1016) (Int32.toNatClampNeg (gi M 1019)) x1)) 1018 (upd (ai (ul M 1016 (vp_updL (al M 1016) (Int32.toNatClampNeg (gi M 1019)) x1)) 1018) (Int32.toNatClampNeg (gi (ul M 1016 (vp_updL (al M 1016) (Int32.toNatClampNeg (gi M 1019)) x1)) 1019)) (vp_nar .boolean x3))) 1019 ((gi (ui (ul M 1016 (vp_updL (al M 1016) (Int32.toNatClampNeg (gi M 1019)) x1)) 1018 (upd (ai (ul M 1016 (vp_updL (al M 1016) (Int32.toNatClampNeg (gi M 1019)) x1)) 1018) (Int32.toNatClampNeg (gi (ul M 1016 (vp_updL (al M 1016) (Int32.toNatClampNeg (gi M 1019)) x1)) 1019)) (vp_nar .boolean x3))) 1019) + (1 : Int32))) 1020) (1 : Int32) (si (ui (ul M 1016 (vp_updL (al M 1016) (Int32.toNatClampNeg (gi M 1019)) x1)) 1018 (upd (ai (ul M 1016 (vp_updL (al M 1016) (Int32.toNatClampNeg (gi M 1019)) x1)) 1018) (Int32.toNatClampNeg (gi (ul M 1016 (vp_updL (al M 1016) (Int32.toNatClampNeg (gi M 1019)) x1)) 1019)) (vp_nar .boolean x3))) 1019 ((gi (ui (ul M 1016 (vp_updL (al M 1016) (Int32.toNatClampNeg (gi M 1019)) x1)) 1018 (upd (ai (ul M 1016 (vp_updL (al M 1016) (Int32.toNatClampNeg (gi M 1019)) x1)) 1018) (Int32.toNatClampNeg (gi (ul M 1016 (vp_updL (al M 1016) (Int32.toNatClampNeg (gi M 1019)) x1)) 1019)) (vp_nar .boolean x3))) 1019) + (1 : Int32))))) else b2 (F_m_refuse (2 : Int32) M) (fun r3 M5 => some (r3, M5)) else if x4 = 0 then ck (ib x5 12) (if (al M 1016 (Int32.toNatClampNeg x5)) = x1 then F_m_wish_57 (F_m_wish_31 n) x1 x3 x5 M else F_m_wish_62 (F_m_wish_31 n) x1 x3 x5 (0 : Int32) M) else F_m_wish_57 (F_m_wish_31 n) x1 x3 x5 M
set_option maxRecDepth 100000 in
theorem X_m_wish_31 {nL : Nat} {xs : Nat → Int32} {S : Sto} {O : Sto} {d : Nat} (hd : 3 ≤ d) : ∀ n : Nat, ∀ (x1 : Int64) (x3 : Int32) (x4 : Int32) (x5 : Int32) (M : Sto) (r : Int32) (M' : Sto), F_m_wish_31 n x1 x3 x4 x5 M = some (r, M') → EX nL xs 0 MI_171 d 31 [some (.ref 1000), some (.long x1), none, some (.int x3), some (.int x4), some (.int x5)] [] (S, M, O) (.inl (some (.int r))) (S, M', O) := by
  intro n
  induction n with
  | zero => intro x1 x3 x4 x5 M r M' hF; cases hF
  | succ n ih =>
  intro x1 x3 x4 x5 M r M' hF
  unfold F_m_wish_31 at hF
  refine Ex_go 4 (pc' := if (gi M 1019) ≤ x5 then 70 else 40) (L' := [some (.ref 1000), some (.long x1), none, some (.int x3), some (.int x4), some (.int x5)]) (st' := []) (σ' := (S, M, O)) (rfl) ?_
  refine Ex_br (fun hc => ?_) (fun hc => ?_)
  · rw [if_pos hc] at hF
    refine Ex_go 2 (pc' := if x4 = 0 then 81 else 75) (L' := [some (.ref 1000), some (.long x1), none, some (.int x3), some (.int x4), some (.int x5)]) (st' := []) (σ' := (S, M, O)) (rfl) ?_
    refine Ex_br (fun hc => ?_) (fun hc => ?_)
    · rw [if_pos hc] at hF
      refine Ex_go 5 (pc' := 90) (L' := [some (.ref 1000), some (.long x1), none, some (.int x3), some (.int x4), some (.int x5)]) (st' := [.long x1, .int (gi M 1019), .ref 1016]) (σ' := (S, M, O)) (rfl) ?_
      obtain ⟨hc1, hF⟩ := ck_i hF
      refine Ex_chk (b := ib (gi M 1019) 12) (pc' := 91) (L' := [some (.ref 1000), some (.long x1), none, some (.int x3), some (.int x4), some (.int x5)]) (st' := []) (σ' := (S, (ul M 1016 (vp_updL (al M 1016) (Int32.toNatClampNeg (gi M 1019)) x1)), O)) rfl hc1 ?_
      refine Ex_go 5 (pc' := 100) (L' := [some (.ref 1000), some (.long x1), none, some (.int x3), some (.int x4), some (.int x5)]) (st' := [.int x3, .int (gi (ul M 1016 (vp_updL (al M 1016) (Int32.toNatClampNeg (gi M 1019)) x1)) 1019), .ref 1018]) (σ' := (S, (ul M 1016 (vp_updL (al M 1016) (Int32.toNatClampNeg (gi M 1019)) x1)), O)) (rfl) ?_
      obtain ⟨hc2, hF⟩ := ck_i hF
      refine Ex_chk (b := ib (gi (ul M 1016 (vp_updL (al M 1016) (Int32.toNatClampNeg (gi M 1019)) x1)) 1019) 12) (pc' := 101) (L' := [some (.ref 1000), some (.long x1), none, some (.int x3), some (.int x4), some (.int x5)]) (st' := []) (σ' := (S, (ui (ul M 1016 (vp_updL (al M 1016) (Int32.toNatClampNeg (gi M 1019)) x1)) 1018 (upd (ai (ul M 1016 (vp_updL (al M 1016) (Int32.toNatClampNeg (gi M 1019)) x1)) 1018) (Int32.toNatClampNeg (gi (ul M 1016 (vp_updL (al M 1016) (Int32.toNatClampNeg (gi M 1019)) x1)) 1019)) (vp_nar .boolean x3))), O)) rfl hc2 ?_
      refine Ex_go 10 (pc' := 117) (L' := [some (.ref 1000), some (.long x1), none, some (.int x3), some (.int x4), some (.int x5)]) (st' := [.int x3, .int (gi (si (ui (ul M 1016 (vp_updL (al M 1016) (Int32.toNatClampNeg (gi M 1019)) x1)) 1018 (upd (ai (ul M 1016 (vp_updL (al M 1016) (Int32.toNatClampNeg (gi M 1019)) x1)) 1018) (Int32.toNatClampNeg (gi (ul M 1016 (vp_updL (al M 1016) (Int32.toNatClampNeg (gi M 1019)) x1)) 1019)) (vp_nar .boolean x3))) 1019 ((gi (ui (ul M 1016 (vp_updL (al M 1016) (Int32.toNatClampNeg (gi M 1019)) x1)) 1018 (upd (ai (ul M 1016 (vp_updL (al M 1016) (Int32.toNatClampNeg (gi M 1019)) x1)) 1018) (Int32.toNatClampNeg (gi (ul M 1016 (vp_updL (al M 1016) (Int32.toNatClampNeg (gi M 1019)) x1)) 1019)) (vp_nar .boolean x3))) 1019) + (1 : Int32))) 1020), .ref 1000]) (σ' := (S, (si (ui (ul M 1016 (vp_updL (al M 1016) (Int32.toNatClampNeg (gi M 1019)) x1)) 1018 (upd (ai (ul M 1016 (vp_updL (al M 1016) (Int32.toNatClampNeg (gi M 1019)) x1)) 1018) (Int32.toNatClampNeg (gi (ul M 1016 (vp_updL (al M 1016) (Int32.toNatClampNeg (gi M 1019)) x1)) 1019)) (vp_nar .boolean x3))) 1019 ((gi (ui (ul M 1016 (vp_updL (al M 1016) (Int32.toNatClampNeg (gi M 1019)) x1)) 1018 (upd (ai (ul M 1016 (vp_updL (al M 1016) (Int32.toNatClampNeg (gi M 1019)) x1)) 1018) (Int32.toNatClampNeg (gi (ul M 1016 (vp_updL (al M 1016) (Int32.toNatClampNeg (gi M 1019)) x1)) 1019)) (vp_nar .boolean x3))) 1019) + (1 : Int32))), O)) (rfl) ?_
      refine Ex_go 1 (pc' := if x3 = 0 then 124 else 120) (L' := [some (.ref 1000), some (.long x1), none, some (.int x3), some (.int x4), some (.int x5)]) (st' := [.int (gi (si (ui (ul M 1016 (vp_updL (al M 1016) (Int32.toNatClampNeg (gi M 1019)) x1)) 1018 (upd (ai (ul M 1016 (vp_updL (al M 1016) (Int32.toNatClampNeg (gi M 1019)) x1)) 1018) (Int32.toNatClampNeg (gi (ul M 1016 (vp_updL (al M 1016) (Int32.toNatClampNeg (gi M 1019)) x1)) 1019)) (vp_nar .boolean x3))) 1019 ((gi (ui (ul M 1016 (vp_updL (al M 1016) (Int32.toNatClampNeg (gi M 1019)) x1)) 1018 (upd (ai (ul M 1016 (vp_updL (al M 1016) (Int32.toNatClampNeg (gi M 1019)) x1)) 1018) (Int32.toNatClampNeg (gi (ul M 1016 (vp_updL (al M 1016) (Int32.toNatClampNeg (gi M 1019)) x1)) 1019)) (vp_nar .boolean x3))) 1019) + (1 : Int32))) 1020), .ref 1000]) (σ' := (S, (si (ui (ul M 1016 (vp_updL (al M 1016) (Int32.toNatClampNeg (gi M 1019)) x1)) 1018 (upd (ai (ul M 1016 (vp_updL (al M 1016) (Int32.toNatClampNeg (gi M 1019)) x1)) 1018) (Int32.toNatClampNeg (gi (ul M 1016 (vp_updL (al M 1016) (Int32.toNatClampNeg (gi M 1019)) x1)) 1019)) (vp_nar .boolean x3))) 1019 ((gi (ui (ul M 1016 (vp_updL (al M 1016) (Int32.toNatClampNeg (gi M 1019)) x1)) 1018 (upd (ai (ul M 1016 (vp_updL (al M 1016) (Int32.toNatClampNeg (gi M 1019)) x1)) 1018) (Int32.toNatClampNeg (gi (ul M 1016 (vp_updL (al M 1016) (Int32.toNatClampNeg (gi M 1019)) x1)) 1019)) (vp_nar .boolean x3))) 1019) + (1 : Int32))), O)) (rfl) ?_
      refine Ex_br (fun hc => ?_) (fun hc => ?_)
      · rw [if_pos hc] at hF
        refine Ex_go 1 (pc' := 125) (L' := [some (.ref 1000), some (.long x1), none, some (.int x3), some (.int x4), some (.int x5)]) (st' := [.int (0 : Int32), .int (gi (si (ui (ul M 1016 (vp_updL (al M 1016) (Int32.toNatClampNeg (gi M 1019)) x1)) 1018 (upd (ai (ul M 1016 (vp_updL (al M 1016) (Int32.toNatClampNeg (gi M 1019)) x1)) 1018) (Int32.toNatClampNeg (gi (ul M 1016 (vp_updL (al M 1016) (Int32.toNatClampNeg (gi M 1019)) x1)) 1019)) (vp_nar .boolean x3))) 1019 ((gi (ui (ul M 1016 (vp_updL (al M 1016) (Int32.toNatClampNeg (gi M 1019)) x1)) 1018 (upd (ai (ul M 1016 (vp_updL (al M 1016) (Int32.toNatClampNeg (gi M 1019)) x1)) 1018) (Int32.toNatClampNeg (gi (ul M 1016 (vp_updL (al M 1016) (Int32.toNatClampNeg (gi M 1019)) x1)) 1019)) (vp_nar .boolean x3))) 1019) + (1 : Int32))) 1020), .ref 1000]) (σ' := (S, (si (ui (ul M 1016 (vp_updL (al M 1016) (Int32.toNatClampNeg (gi M 1019)) x1)) 1018 (upd (ai (ul M 1016 (vp_updL (al M 1016) (Int32.toNatClampNeg (gi M 1019)) x1)) 1018) (Int32.toNatClampNeg (gi (ul M 1016 (vp_updL (al M 1016) (Int32.toNatClampNeg (gi M 1019)) x1)) 1019)) (vp_nar .boolean x3))) 1019 ((gi (ui (ul M 1016 (vp_updL (al M 1016) (Int32.toNatClampNeg (gi M 1019)) x1)) 1018 (upd (ai (ul M 1016 (vp_updL (al M 1016) (Int32.toNatClampNeg (gi M 1019)) x1)) 1018) (Int32.toNatClampNeg (gi (ul M 1016 (vp_updL (al M 1016) (Int32.toNatClampNeg (gi M 1019)) x1)) 1019)) (vp_nar .boolean x3))) 1019) + (1 : Int32))), O)) (rfl) ?_
        exact Ex_mono (L := [some (.ref 1000), none, none, none, none, none]) (Le_s (Le_n (Le_n (Le_n (Le_n (Le_n (Le_0))))))) (X_m_wish_125 hd _ _ _ _ _ hF) (Nat.le_refl _) (by omega)
      · rw [if_neg hc] at hF
        refine Ex_go 2 (pc' := 125) (L' := [some (.ref 1000), some (.long x1), none, some (.int x3), some (.int x4), some (.int x5)]) (st' := [.int (1 : Int32), .int (gi (si (ui (ul M 1016 (vp_updL (al M 1016) (Int32.toNatClampNeg (gi M 1019)) x1)) 1018 (upd (ai (ul M 1016 (vp_updL (al M 1016) (Int32.toNatClampNeg (gi M 1019)) x1)) 1018) (Int32.toNatClampNeg (gi (ul M 1016 (vp_updL (al M 1016) (Int32.toNatClampNeg (gi M 1019)) x1)) 1019)) (vp_nar .boolean x3))) 1019 ((gi (ui (ul M 1016 (vp_updL (al M 1016) (Int32.toNatClampNeg (gi M 1019)) x1)) 1018 (upd (ai (ul M 1016 (vp_updL (al M 1016) (Int32.toNatClampNeg (gi M 1019)) x1)) 1018) (Int32.toNatClampNeg (gi (ul M 1016 (vp_updL (al M 1016) (Int32.toNatClampNeg (gi M 1019)) x1)) 1019)) (vp_nar .boolean x3))) 1019) + (1 : Int32))) 1020), .ref 1000]) (σ' := (S, (si (ui (ul M 1016 (vp_updL (al M 1016) (Int32.toNatClampNeg (gi M 1019)) x1)) 1018 (upd (ai (ul M 1016 (vp_updL (al M 1016) (Int32.toNatClampNeg (gi M 1019)) x1)) 1018) (Int32.toNatClampNeg (gi (ul M 1016 (vp_updL (al M 1016) (Int32.toNatClampNeg (gi M 1019)) x1)) 1019)) (vp_nar .boolean x3))) 1019 ((gi (ui (ul M 1016 (vp_updL (al M 1016) (Int32.toNatClampNeg (gi M 1019)) x1)) 1018 (upd (ai (ul M 1016 (vp_updL (al M 1016) (Int32.toNatClampNeg (gi M 1019)) x1)) 1018) (Int32.toNatClampNeg (gi (ul M 1016 (vp_updL (al M 1016) (Int32.toNatClampNeg (gi M 1019)) x1)) 1019)) (vp_nar .boolean x3))) 1019) + (1 : Int32))), O)) (rfl) ?_
        exact Ex_mono (L := [some (.ref 1000), none, none, none, none, none]) (Le_s (Le_n (Le_n (Le_n (Le_n (Le_n (Le_0))))))) (X_m_wish_125 hd _ _ _ _ _ hF) (Nat.le_refl _) (by omega)
    · rw [if_neg hc] at hF
      refine Ex_go 2 (pc' := 77) (L' := [some (.ref 1000), some (.long x1), none, some (.int x3), some (.int x4), some (.int x5)]) (st' := [.int (2 : Int32), .ref 1000]) (σ' := (S, M, O)) (rfl) ?_
      obtain ⟨r3, M5, hx4, hF⟩ := b2_i hF
      refine Ex_call (kind := 2) (y := 114) (as := [.ref 1000, .int (2 : Int32)]) (rest := []) (L0 := [some (.ref 1000), some (.int (2 : Int32))]) (d' := 1) (v := some (.int r3)) (σ1 := (S, M5, O)) rfl rfl mt_114 rfl rfl (by omega) (X_m_refuse (Nat.le_refl _) _ _ _ _ hx4) (Ex_st (st2 := [.int r3]) rfl ?_)
      cases hF
      exact Ex_fin rfl
  · rw [if_neg hc] at hF
    refine Ex_go 2 (pc' := if ¬ x4 = 0 then 57 else 45) (L' := [some (.ref 1000), some (.long x1), none, some (.int x3), some (.int x4), some (.int x5)]) (st' := []) (σ' := (S, M, O)) (rfl) ?_
    refine Ex_brN (fun hc => ?_) (fun hc => ?_)
    · rw [if_pos hc] at hF
      refine Ex_go 3 (pc' := 51) (L' := [some (.ref 1000), some (.long x1), none, some (.int x3), some (.int x4), some (.int x5)]) (st' := [.int x5, .ref 1016]) (σ' := (S, M, O)) (rfl) ?_
      obtain ⟨hc6, hF⟩ := ck_i hF
      refine Ex_chk (b := ib x5 12) (pc' := 52) (L' := [some (.ref 1000), some (.long x1), none, some (.int x3), some (.int x4), some (.int x5)]) (st' := [.long (al M 1016 (Int32.toNatClampNeg x5))]) (σ' := (S, M, O)) rfl hc6 ?_
      refine Ex_go 3 (pc' := if ¬ (lg_cmp (al M 1016 (Int32.toNatClampNeg x5)) x1) = 0 then 61 else 57) (L' := [some (.ref 1000), some (.long x1), none, some (.int x3), some (.int x4), some (.int x5)]) (st' := []) (σ' := (S, M, O)) (rfl) ?_
      refine Ex_brNI lc_ne (fun hc => ?_) (fun hc => ?_)
      · rw [if_pos hc] at hF
        exact Ex_mono (L := [some (.ref 1000), some (.long x1), none, some (.int x3), none, some (.int x5)]) (Le_s (Le_s (Le_n (Le_s (Le_n (Le_s (Le_0))))))) (X_m_wish_57 hd ih _ _ _ _ _ _ hF) (Nat.le_refl _) (by omega)
      · rw [if_neg hc] at hF
        refine Ex_go 1 (pc' := 62) (L' := [some (.ref 1000), some (.long x1), none, some (.int x3), some (.int x4), some (.int x5)]) (st' := [.int (0 : Int32)]) (σ' := (S, M, O)) (rfl) ?_
        exact Ex_mono (L := [some (.ref 1000), some (.long x1), none, some (.int x3), none, some (.int x5)]) (Le_s (Le_s (Le_n (Le_s (Le_n (Le_s (Le_0))))))) (X_m_wish_62 hd ih _ _ _ _ _ _ _ hF) (Nat.le_refl _) (by omega)
    · rw [if_neg hc] at hF
      exact Ex_mono (L := [some (.ref 1000), some (.long x1), none, some (.int x3), none, some (.int x5)]) (Le_s (Le_s (Le_n (Le_s (Le_n (Le_s (Le_0))))))) (X_m_wish_57 hd ih _ _ _ _ _ _ hF) (Nat.le_refl _) (by omega)
def F_m_wish_26 (x1 : Int64) (x3 : Int32) (s0 : Int32) (M : Sto) : Option (Int32 × Sto) := F_m_wish_31 FU x1 x3 s0 (0 : Int32) M
set_option maxRecDepth 100000 in
theorem X_m_wish_26 {nL : Nat} {xs : Nat → Int32} {S : Sto} {O : Sto} {d : Nat} (hd : 3 ≤ d) : ∀ (x1 : Int64) (x3 : Int32) (s0 : Int32) (M : Sto) (r : Int32) (M' : Sto), F_m_wish_26 x1 x3 s0 M = some (r, M') → EX nL xs 0 MI_171 d 26 [some (.ref 1000), some (.long x1), none, some (.int x3), none, none] [.int s0] (S, M, O) (.inl (some (.int r))) (S, M', O) := by
  intro x1 x3 s0 M r M' hF
  unfold F_m_wish_26 at hF
  refine Ex_go 3 (pc' := 31) (L' := [some (.ref 1000), some (.long x1), none, some (.int x3), some (.int s0), some (.int (0 : Int32))]) (st' := []) (σ' := (S, M, O)) (rfl) ?_
  exact Ex_mono (L := [some (.ref 1000), some (.long x1), none, some (.int x3), some (.int s0), some (.int (0 : Int32))]) (Le_s (Le_s (Le_n (Le_s (Le_s (Le_s (Le_0))))))) (X_m_wish_31 hd FU _ _ _ _ _ _ _ hF) (Nat.le_refl _) (by omega)
def F_m_wish_21 (x1 : Int64) (x3 : Int32) (M : Sto) : Option (Int32 × Sto) := F_m_wish_26 x1 x3 (1 : Int32) M
set_option maxRecDepth 100000 in
theorem X_m_wish_21 {nL : Nat} {xs : Nat → Int32} {S : Sto} {O : Sto} {d : Nat} (hd : 3 ≤ d) : ∀ (x1 : Int64) (x3 : Int32) (M : Sto) (r : Int32) (M' : Sto), F_m_wish_21 x1 x3 M = some (r, M') → EX nL xs 0 MI_171 d 21 [some (.ref 1000), some (.long x1), none, some (.int x3), none, none] [] (S, M, O) (.inl (some (.int r))) (S, M', O) := by
  intro x1 x3 M r M' hF
  unfold F_m_wish_21 at hF
  refine Ex_go 2 (pc' := 26) (L' := [some (.ref 1000), some (.long x1), none, some (.int x3), none, none]) (st' := [.int (1 : Int32)]) (σ' := (S, M, O)) (rfl) ?_
  exact Ex_mono (L := [some (.ref 1000), some (.long x1), none, some (.int x3), none, none]) (Le_s (Le_s (Le_n (Le_s (Le_n (Le_n (Le_0))))))) (X_m_wish_26 hd _ _ _ _ _ _ hF) (Nat.le_refl _) (by omega)
def F_m_wish (x1 : Int64) (x3 : Int32) (M : Sto) : Option (Int32 × Sto) := if (gi (si M 1001 (0 : Int32)) 1019) = (12 : Int32) then F_m_wish_21 x1 x3 (si M 1001 (0 : Int32)) else b1 (F_m_isNumber x1) (fun r1 => if r1 = 0 then F_m_wish_21 x1 x3 (si M 1001 (0 : Int32)) else F_m_wish_26 x1 x3 (0 : Int32) (si M 1001 (0 : Int32)))
set_option maxRecDepth 100000 in
theorem X_m_wish {nL : Nat} {xs : Nat → Int32} {S : Sto} {O : Sto} {d : Nat} (hd : 3 ≤ d) : ∀ (x1 : Int64) (x3 : Int32) (M : Sto) (r : Int32) (M' : Sto), F_m_wish x1 x3 M = some (r, M') → EX nL xs 0 MI_171 d 0 [some (.ref 1000), some (.long x1), none, some (.int x3), none, none] [] (S, M, O) (.inl (some (.int r))) (S, M', O) := by
  intro x1 x3 M r M' hF
  unfold F_m_wish at hF
  refine Ex_go 7 (pc' := if (gi (si M 1001 (0 : Int32)) 1019) = (12 : Int32) then 21 else 14) (L' := [some (.ref 1000), some (.long x1), none, some (.int x3), none, none]) (st' := []) (σ' := (S, (si M 1001 (0 : Int32)), O)) (rfl) ?_
  refine Ex_br (fun hc => ?_) (fun hc => ?_)
  · rw [if_pos hc] at hF
    exact Ex_mono (L := [some (.ref 1000), some (.long x1), none, some (.int x3), none, none]) (Le_s (Le_s (Le_n (Le_s (Le_n (Le_n (Le_0))))))) (X_m_wish_21 hd _ _ _ _ _ hF) (Nat.le_refl _) (by omega)
  · rw [if_neg hc] at hF
    refine Ex_go 1 (pc' := 15) (L' := [some (.ref 1000), some (.long x1), none, some (.int x3), none, none]) (st' := [.long x1]) (σ' := (S, (si M 1001 (0 : Int32)), O)) (rfl) ?_
    obtain ⟨r1, hx2, hF⟩ := b1_i hF
    refine Ex_call (kind := 0) (y := 101) (as := [.long x1]) (rest := []) (L0 := [some (.long x1), none]) (d' := 2) (v := some (.int r1)) (σ1 := (S, (si M 1001 (0 : Int32)), O)) rfl rfl mt_101 rfl rfl (by omega) (X_m_isNumber (Nat.le_refl _) _ _ hx2) (Ex_st (st2 := [.int r1]) rfl ?_)
    refine Ex_go 1 (pc' := if ¬ r1 = 0 then 25 else 21) (L' := [some (.ref 1000), some (.long x1), none, some (.int x3), none, none]) (st' := []) (σ' := (S, (si M 1001 (0 : Int32)), O)) (rfl) ?_
    refine Ex_brN (fun hc => ?_) (fun hc => ?_)
    · rw [if_pos hc] at hF
      exact Ex_mono (L := [some (.ref 1000), some (.long x1), none, some (.int x3), none, none]) (Le_s (Le_s (Le_n (Le_s (Le_n (Le_n (Le_0))))))) (X_m_wish_21 hd _ _ _ _ _ hF) (Nat.le_refl _) (by omega)
    · rw [if_neg hc] at hF
      refine Ex_go 1 (pc' := 26) (L' := [some (.ref 1000), some (.long x1), none, some (.int x3), none, none]) (st' := [.int (0 : Int32)]) (σ' := (S, (si M 1001 (0 : Int32)), O)) (rfl) ?_
      exact Ex_mono (L := [some (.ref 1000), some (.long x1), none, some (.int x3), none, none]) (Le_s (Le_s (Le_n (Le_s (Le_n (Le_n (Le_0))))))) (X_m_wish_26 hd _ _ _ _ _ _ hF) (Nat.le_refl _) (by omega)
def F_Sh_bySome_60 (k5 : Int32 → Int64 → Int32 → Sto → Option Int64) (x1 : Int32) (x2 : Int64) (x4 : Int32) (S : Sto) : Option Int64 := k5 x1 x2 (x4 + (1 : Int32)) S
set_option maxRecDepth 100000 in
theorem X_Sh_bySome_60 {nL : Nat} {xs : Nat → Int32} {M : Sto} {O : Sto} {d : Nat} (hd : 2 ≤ d) {k5 : Int32 → Int64 → Int32 → Sto → Option Int64} (hk5 : ∀ (x1 : Int32) (x2 : Int64) (x4 : Int32) (S : Sto) (r : Int64), k5 x1 x2 x4 S = some r → EX nL xs 0 MI_145 d 5 [some (.ref 21), some (.int x1), some (.long x2), none, some (.int x4)] [] (S, M, O) (.inl (some (.long r))) (S, M, O)) : ∀ (x1 : Int32) (x2 : Int64) (x4 : Int32) (S : Sto) (r : Int64), F_Sh_bySome_60 k5 x1 x2 x4 S = some r → EX nL xs 0 MI_145 d 60 [some (.ref 21), some (.int x1), some (.long x2), none, some (.int x4)] [] (S, M, O) (.inl (some (.long r))) (S, M, O) := by
  intro x1 x2 x4 S r hF
  unfold F_Sh_bySome_60 at hF
  refine Ex_go 2 (pc' := 5) (L' := [some (.ref 21), some (.int x1), some (.long x2), none, some (.int (x4 + (1 : Int32)))]) (st' := []) (σ' := (S, M, O)) (rfl) ?_
  exact Ex_mono (L := [some (.ref 21), some (.int x1), some (.long x2), none, some (.int (x4 + (1 : Int32)))]) (Le_s (Le_s (Le_s (Le_n (Le_s (Le_0)))))) (hk5 _ _ _ _ _ hF) (Nat.le_refl _) (by omega)
def F_Sh_bySome_58 (k5 : Int32 → Int64 → Int32 → Sto → Option Int64) (x1 : Int32) (x4 : Int32) (s0 : Int64) (s1 : Int64) (S : Sto) : Option Int64 := F_Sh_bySome_60 k5 x1 (s0 + s1) x4 S
set_option maxRecDepth 100000 in
theorem X_Sh_bySome_58 {nL : Nat} {xs : Nat → Int32} {M : Sto} {O : Sto} {d : Nat} (hd : 2 ≤ d) {k5 : Int32 → Int64 → Int32 → Sto → Option Int64} (hk5 : ∀ (x1 : Int32) (x2 : Int64) (x4 : Int32) (S : Sto) (r : Int64), k5 x1 x2 x4 S = some r → EX nL xs 0 MI_145 d 5 [some (.ref 21), some (.int x1), some (.long x2), none, some (.int x4)] [] (S, M, O) (.inl (some (.long r))) (S, M, O)) : ∀ (x1 : Int32) (x4 : Int32) (s0 : Int64) (s1 : Int64) (S : Sto) (r : Int64), F_Sh_bySome_58 k5 x1 x4 s0 s1 S = some r → EX nL xs 0 MI_145 d 58 [some (.ref 21), some (.int x1), none, none, some (.int x4)] [.long s1, .long s0] (S, M, O) (.inl (some (.long r))) (S, M, O) := by
  intro x1 x4 s0 s1 S r hF
  unfold F_Sh_bySome_58 at hF
  refine Ex_go 2 (pc' := 60) (L' := [some (.ref 21), some (.int x1), some (.long (s0 + s1)), none, some (.int x4)]) (st' := []) (σ' := (S, M, O)) (rfl) ?_
  exact Ex_mono (L := [some (.ref 21), some (.int x1), some (.long (s0 + s1)), none, some (.int x4)]) (Le_s (Le_s (Le_s (Le_n (Le_s (Le_0)))))) (X_Sh_bySome_60 hd hk5 _ _ _ _ _ hF) (Nat.le_refl _) (by omega)
def F_Sh_bySome_5 : Nat → Int32 → Int64 → Int32 → Sto → Option Int64
  | 0, _, _, _, _ => none
  | n + 1, x1, x2, x4, S => if x1 < x4 then some x2 else if (256 : Int32) ≤ x4 then some x2 else if (x4 &&& x1) = x4 then b1 (F_j_bitCountI x4) (fun r1 => if (r1 &&& (1 : Int32)) = (1 : Int32) then ck (ib x4 256) (F_Sh_bySome_58 (F_Sh_bySome_5 n) x1 x4 x2 (al S 26 (Int32.toNatClampNeg x4)) S) else ck (ib x4 256) (F_Sh_bySome_58 (F_Sh_bySome_5 n) x1 x4 x2 (-(al S 26 (Int32.toNatClampNeg x4))) S)) else F_Sh_bySome_60 (F_Sh_bySome_5 n) x1 x2 x4 S
set_option maxRecDepth 100000 in
theorem X_Sh_bySome_5 {nL : Nat} {xs : Nat → Int32} {M : Sto} {O : Sto} {d : Nat} (hd : 2 ≤ d) : ∀ n : Nat, ∀ (x1 : Int32) (x2 : Int64) (x4 : Int32) (S : Sto) (r : Int64), F_Sh_bySome_5 n x1 x2 x4 S = some r → EX nL xs 0 MI_145 d 5 [some (.ref 21), some (.int x1), some (.long x2), none, some (.int x4)] [] (S, M, O) (.inl (some (.long r))) (S, M, O) := by
  intro n
  induction n with
  | zero => intro x1 x2 x4 S r hF; cases hF
  | succ n ih =>
  intro x1 x2 x4 S r hF
  unfold F_Sh_bySome_5 at hF
  refine Ex_go 3 (pc' := if x1 < x4 then 66 else 11) (L' := [some (.ref 21), some (.int x1), some (.long x2), none, some (.int x4)]) (st' := []) (σ' := (S, M, O)) (rfl) ?_
  refine Ex_br (fun hc => ?_) (fun hc => ?_)
  · rw [if_pos hc] at hF
    refine Ex_go 1 (pc' := 67) (L' := [some (.ref 21), some (.int x1), some (.long x2), none, some (.int x4)]) (st' := [.long x2]) (σ' := (S, M, O)) (rfl) ?_
    cases hF
    exact Ex_fin rfl
  · rw [if_neg hc] at hF
    refine Ex_go 3 (pc' := if (256 : Int32) ≤ x4 then 66 else 19) (L' := [some (.ref 21), some (.int x1), some (.long x2), none, some (.int x4)]) (st' := []) (σ' := (S, M, O)) (rfl) ?_
    refine Ex_br (fun hc => ?_) (fun hc => ?_)
    · rw [if_pos hc] at hF
      refine Ex_go 1 (pc' := 67) (L' := [some (.ref 21), some (.int x1), some (.long x2), none, some (.int x4)]) (st' := [.long x2]) (σ' := (S, M, O)) (rfl) ?_
      cases hF
      exact Ex_fin rfl
    · rw [if_neg hc] at hF
      refine Ex_go 5 (pc' := if ¬ (x4 &&& x1) = x4 then 60 else 28) (L' := [some (.ref 21), some (.int x1), some (.long x2), none, some (.int x4)]) (st' := []) (σ' := (S, M, O)) (rfl) ?_
      refine Ex_brN (fun hc => ?_) (fun hc => ?_)
      · rw [if_pos hc] at hF
        refine Ex_go 2 (pc' := 31) (L' := [some (.ref 21), some (.int x1), some (.long x2), none, some (.int x4)]) (st' := [.int x4, .long x2]) (σ' := (S, M, O)) (rfl) ?_
        obtain ⟨r1, hx2, hF⟩ := b1_i hF
        refine Ex_call (kind := 0) (y := 144) (as := [.int x4]) (rest := [.long x2]) (L0 := [some (.int x4)]) (d' := 1) (v := some (.int r1)) (σ1 := (S, M, O)) rfl rfl mt_144 rfl rfl (by omega) (X_j_bitCountI (Nat.le_refl _) _ _ hx2) (Ex_st (st2 := [.int r1, .long x2]) rfl ?_)
        refine Ex_go 4 (pc' := if ¬ (r1 &&& (1 : Int32)) = (1 : Int32) then 50 else 40) (L' := [some (.ref 21), some (.int x1), some (.long x2), none, some (.int x4)]) (st' := [.long x2]) (σ' := (S, M, O)) (rfl) ?_
        refine Ex_brN (fun hc => ?_) (fun hc => ?_)
        · rw [if_pos hc] at hF
          refine Ex_go 3 (pc' := 46) (L' := [some (.ref 21), some (.int x1), some (.long x2), none, some (.int x4)]) (st' := [.int x4, .ref 26, .long x2]) (σ' := (S, M, O)) (rfl) ?_
          obtain ⟨hc4, hF⟩ := ck_i hF
          refine Ex_chk (b := ib x4 256) (pc' := 47) (L' := [some (.ref 21), some (.int x1), some (.long x2), none, some (.int x4)]) (st' := [.long (al S 26 (Int32.toNatClampNeg x4)), .long x2]) (σ' := (S, M, O)) rfl hc4 ?_
          refine Ex_go 1 (pc' := 58) (L' := [some (.ref 21), some (.int x1), some (.long x2), none, some (.int x4)]) (st' := [.long (al S 26 (Int32.toNatClampNeg x4)), .long x2]) (σ' := (S, M, O)) (rfl) ?_
          exact Ex_mono (L := [some (.ref 21), some (.int x1), none, none, some (.int x4)]) (Le_s (Le_s (Le_n (Le_n (Le_s (Le_0)))))) (X_Sh_bySome_58 hd ih _ _ _ _ _ _ hF) (Nat.le_refl _) (by omega)
        · rw [if_neg hc] at hF
          refine Ex_go 3 (pc' := 56) (L' := [some (.ref 21), some (.int x1), some (.long x2), none, some (.int x4)]) (st' := [.int x4, .ref 26, .long x2]) (σ' := (S, M, O)) (rfl) ?_
          obtain ⟨hc3, hF⟩ := ck_i hF
          refine Ex_chk (b := ib x4 256) (pc' := 57) (L' := [some (.ref 21), some (.int x1), some (.long x2), none, some (.int x4)]) (st' := [.long (al S 26 (Int32.toNatClampNeg x4)), .long x2]) (σ' := (S, M, O)) rfl hc3 ?_
          refine Ex_go 1 (pc' := 58) (L' := [some (.ref 21), some (.int x1), some (.long x2), none, some (.int x4)]) (st' := [.long (-(al S 26 (Int32.toNatClampNeg x4))), .long x2]) (σ' := (S, M, O)) (rfl) ?_
          exact Ex_mono (L := [some (.ref 21), some (.int x1), none, none, some (.int x4)]) (Le_s (Le_s (Le_n (Le_n (Le_s (Le_0)))))) (X_Sh_bySome_58 hd ih _ _ _ _ _ _ hF) (Nat.le_refl _) (by omega)
      · rw [if_neg hc] at hF
        exact Ex_mono (L := [some (.ref 21), some (.int x1), some (.long x2), none, some (.int x4)]) (Le_s (Le_s (Le_s (Le_n (Le_s (Le_0)))))) (X_Sh_bySome_60 hd ih _ _ _ _ _ hF) (Nat.le_refl _) (by omega)
def F_Sh_bySome (x1 : Int32) (S : Sto) : Option Int64 := F_Sh_bySome_5 FU x1 (0 : Int64) (1 : Int32) S
set_option maxRecDepth 100000 in
theorem X_Sh_bySome {nL : Nat} {xs : Nat → Int32} {M : Sto} {O : Sto} {d : Nat} (hd : 2 ≤ d) : ∀ (x1 : Int32) (S : Sto) (r : Int64), F_Sh_bySome x1 S = some r → EX nL xs 0 MI_145 d 0 [some (.ref 21), some (.int x1), none, none, none] [] (S, M, O) (.inl (some (.long r))) (S, M, O) := by
  intro x1 S r hF
  unfold F_Sh_bySome at hF
  refine Ex_go 4 (pc' := 5) (L' := [some (.ref 21), some (.int x1), some (.long (0 : Int64)), none, some (.int (1 : Int32))]) (st' := []) (σ' := (S, M, O)) (rfl) ?_
  exact Ex_mono (L := [some (.ref 21), some (.int x1), some (.long (0 : Int64)), none, some (.int (1 : Int32))]) (Le_s (Le_s (Le_s (Le_n (Le_s (Le_0)))))) (X_Sh_bySome_5 hd FU _ _ _ _ _ hF) (Nat.le_refl _) (by omega)
def F_w_most_15 (S : Sto) : Option ((Int32 ⊕ Nat) × Sto) := some ((.inr 0), S)
set_option maxRecDepth 100000 in
theorem X_w_most_15 {nL : Nat} {xs : Nat → Int32} {M : Sto} {O : Sto} {d : Nat} (hd : 9 ≤ d) : ∀ (S : Sto) (r : Int32 ⊕ Nat) (S' : Sto), F_w_most_15 S = some (r, S') → EX nL xs 1 MI_166 d 15 [none, none, none, none, none, none, none, none] [] (S, M, O) (rsI r) (S', M, O) := by
  intro S r S' hF
  unfold F_w_most_15 at hF
  cases hF
  exact Ex_thr rfl (by omega) (Nat.le_refl _)
def F_w_most_104 (k53 : Int32 → Int32 → Int64 → Int32 → Sto → Option ((Int32 ⊕ Nat) × Sto)) (x1 : Int32) (x2 : Int32) (x3 : Int64) (x5 : Int32) (S : Sto) : Option ((Int32 ⊕ Nat) × Sto) := k53 x1 x2 x3 (x5 + (1 : Int32)) S
set_option maxRecDepth 100000 in
theorem X_w_most_104 {nL : Nat} {xs : Nat → Int32} {M : Sto} {O : Sto} {d : Nat} (hd : 9 ≤ d) {k53 : Int32 → Int32 → Int64 → Int32 → Sto → Option ((Int32 ⊕ Nat) × Sto)} (hk53 : ∀ (x1 : Int32) (x2 : Int32) (x3 : Int64) (x5 : Int32) (S : Sto) (r : Int32 ⊕ Nat) (S' : Sto), k53 x1 x2 x3 x5 S = some (r, S') → EX nL xs 1 MI_166 d 53 [some (.ref 0), some (.int x1), some (.int x2), some (.long x3), none, some (.int x5), none, none] [] (S, M, O) (rsI r) (S', M, O)) : ∀ (x1 : Int32) (x2 : Int32) (x3 : Int64) (x5 : Int32) (S : Sto) (r : Int32 ⊕ Nat) (S' : Sto), F_w_most_104 k53 x1 x2 x3 x5 S = some (r, S') → EX nL xs 1 MI_166 d 104 [some (.ref 0), some (.int x1), some (.int x2), some (.long x3), none, some (.int x5), none, none] [] (S, M, O) (rsI r) (S', M, O) := by
  intro x1 x2 x3 x5 S r S' hF
  unfold F_w_most_104 at hF
  refine Ex_go 2 (pc' := 53) (L' := [some (.ref 0), some (.int x1), some (.int x2), some (.long x3), none, some (.int (x5 + (1 : Int32))), none, none]) (st' := []) (σ' := (S, M, O)) (rfl) ?_
  exact Ex_mono (L := [some (.ref 0), some (.int x1), some (.int x2), some (.long x3), none, some (.int (x5 + (1 : Int32))), none, none]) (Le_s (Le_s (Le_s (Le_s (Le_n (Le_s (Le_n (Le_n (Le_0))))))))) (hk53 _ _ _ _ _ _ _ hF) (Nat.le_refl _) (by omega)
def F_w_most_89 (k53 : Int32 → Int32 → Int64 → Int32 → Sto → Option ((Int32 ⊕ Nat) × Sto)) (x1 : Int32) (x2 : Int32) (x3 : Int64) (x5 : Int32) (s0 : Int64) (S : Sto) : Option ((Int32 ⊕ Nat) × Sto) := if s0 ≤ x3 then F_w_most_104 k53 x1 x2 x3 x5 S else F_w_most_104 k53 x1 x5 s0 x5 S
set_option maxRecDepth 100000 in
theorem X_w_most_89 {nL : Nat} {xs : Nat → Int32} {M : Sto} {O : Sto} {d : Nat} (hd : 9 ≤ d) {k53 : Int32 → Int32 → Int64 → Int32 → Sto → Option ((Int32 ⊕ Nat) × Sto)} (hk53 : ∀ (x1 : Int32) (x2 : Int32) (x3 : Int64) (x5 : Int32) (S : Sto) (r : Int32 ⊕ Nat) (S' : Sto), k53 x1 x2 x3 x5 S = some (r, S') → EX nL xs 1 MI_166 d 53 [some (.ref 0), some (.int x1), some (.int x2), some (.long x3), none, some (.int x5), none, none] [] (S, M, O) (rsI r) (S', M, O)) : ∀ (x1 : Int32) (x2 : Int32) (x3 : Int64) (x5 : Int32) (s0 : Int64) (S : Sto) (r : Int32 ⊕ Nat) (S' : Sto), F_w_most_89 k53 x1 x2 x3 x5 s0 S = some (r, S') → EX nL xs 1 MI_166 d 89 [some (.ref 0), some (.int x1), some (.int x2), some (.long x3), none, some (.int x5), none, none] [.long s0] (S, M, O) (rsI r) (S', M, O) := by
  intro x1 x2 x3 x5 s0 S r S' hF
  unfold F_w_most_89 at hF
  refine Ex_go 5 (pc' := if (lg_cmp s0 x3) ≤ 0 then 104 else 98) (L' := [some (.ref 0), some (.int x1), some (.int x2), some (.long x3), none, some (.int x5), some (.long s0), none]) (st' := []) (σ' := (S, M, O)) (rfl) ?_
  refine Ex_brI lc_le (fun hc => ?_) (fun hc => ?_)
  · rw [if_pos hc] at hF
    exact Ex_mono (L := [some (.ref 0), some (.int x1), some (.int x2), some (.long x3), none, some (.int x5), none, none]) (Le_s (Le_s (Le_s (Le_s (Le_n (Le_s (Le_n (Le_n (Le_0))))))))) (X_w_most_104 hd hk53 _ _ _ _ _ _ _ hF) (Nat.le_refl _) (by omega)
  · rw [if_neg hc] at hF
    refine Ex_go 4 (pc' := 104) (L' := [some (.ref 0), some (.int x1), some (.int x5), some (.long s0), none, some (.int x5), some (.long s0), none]) (st' := []) (σ' := (S, M, O)) (rfl) ?_
    exact Ex_mono (L := [some (.ref 0), some (.int x1), some (.int x5), some (.long s0), none, some (.int x5), none, none]) (Le_s (Le_s (Le_s (Le_s (Le_n (Le_s (Le_n (Le_n (Le_0))))))))) (X_w_most_104 hd hk53 _ _ _ _ _ _ _ hF) (Nat.le_refl _) (by omega)
def F_w_most_53 : Nat → Int32 → Int32 → Int64 → Int32 → Sto → Option ((Int32 ⊕ Nat) × Sto)
  | 0, _, _, _, _, _ => none
  | n + 1, x1, x2, x3, x5, S => if (gi S 25) ≤ x5 then some ((.inl x2), S) else b1 (F_j_bitCountI x5) (fun r1 => if r1 = x1 then b1 (F_Sh_bySome x5 S) (fun r3 => F_w_most_89 (F_w_most_53 n) x1 x2 x3 x5 r3 S) else F_w_most_89 (F_w_most_53 n) x1 x2 x3 x5 (-1 : Int64) S)
set_option maxRecDepth 100000 in
theorem X_w_most_53 {nL : Nat} {xs : Nat → Int32} {M : Sto} {O : Sto} {d : Nat} (hd : 9 ≤ d) : ∀ n : Nat, ∀ (x1 : Int32) (x2 : Int32) (x3 : Int64) (x5 : Int32) (S : Sto) (r : Int32 ⊕ Nat) (S' : Sto), F_w_most_53 n x1 x2 x3 x5 S = some (r, S') → EX nL xs 1 MI_166 d 53 [some (.ref 0), some (.int x1), some (.int x2), some (.long x3), none, some (.int x5), none, none] [] (S, M, O) (rsI r) (S', M, O) := by
  intro n
  induction n with
  | zero => intro x1 x2 x3 x5 S r S' hF; cases hF
  | succ n ih =>
  intro x1 x2 x3 x5 S r S' hF
  unfold F_w_most_53 at hF
  refine Ex_go 5 (pc' := if (gi S 25) ≤ x5 then 110 else 65) (L' := [some (.ref 0), some (.int x1), some (.int x2), some (.long x3), none, some (.int x5), none, none]) (st' := []) (σ' := (S, M, O)) (rfl) ?_
  refine Ex_br (fun hc => ?_) (fun hc => ?_)
  · rw [if_pos hc] at hF
    refine Ex_go 1 (pc' := 111) (L' := [some (.ref 0), some (.int x1), some (.int x2), some (.long x3), none, some (.int x5), none, none]) (st' := [.int x2]) (σ' := (S, M, O)) (rfl) ?_
    cases hF
    exact Ex_fin rfl
  · rw [if_neg hc] at hF
    refine Ex_go 1 (pc' := 67) (L' := [some (.ref 0), some (.int x1), some (.int x2), some (.long x3), none, some (.int x5), none, none]) (st' := [.int x5]) (σ' := (S, M, O)) (rfl) ?_
    obtain ⟨r1, hx2, hF⟩ := b1_i hF
    refine Ex_callK (K1 := 0) (K2 := 1) (kind := 0) (y := 144) (as := [.int x5]) (rest := []) (L0 := [some (.int x5)]) (d' := 1) (v := some (.int r1)) (σ1 := (S, M, O)) rfl rfl mt_144 rfl rfl (by omega) (X_j_bitCountI (Nat.le_refl _) _ _ hx2) (Ex_st (st2 := [.int r1]) rfl ?_) (by omega)
    refine Ex_go 2 (pc' := if ¬ r1 = x1 then 86 else 74) (L' := [some (.ref 0), some (.int x1), some (.int x2), some (.long x3), none, some (.int x5), none, none]) (st' := []) (σ' := (S, M, O)) (rfl) ?_
    refine Ex_brN (fun hc => ?_) (fun hc => ?_)
    · rw [if_pos hc] at hF
      refine Ex_go 3 (pc' := 80) (L' := [some (.ref 0), some (.int x1), some (.int x2), some (.long x3), none, some (.int x5), none, none]) (st' := [.int x5, .ref 21]) (σ' := (S, M, O)) (rfl) ?_
      obtain ⟨r3, hx4, hF⟩ := b1_i hF
      refine Ex_callK (K1 := 0) (K2 := 1) (kind := 2) (y := 145) (as := [.ref 21, .int x5]) (rest := []) (L0 := [some (.ref 21), some (.int x5), none, none, none]) (d' := 2) (v := some (.long r3)) (σ1 := (S, M, O)) rfl rfl mt_145 rfl rfl (by omega) (X_Sh_bySome (Nat.le_refl _) _ _ _ hx4) (Ex_st (st2 := [.long r3]) rfl ?_) (by omega)
      refine Ex_go 1 (pc' := 89) (L' := [some (.ref 0), some (.int x1), some (.int x2), some (.long x3), none, some (.int x5), none, none]) (st' := [.long r3]) (σ' := (S, M, O)) (rfl) ?_
      exact Ex_mono (L := [some (.ref 0), some (.int x1), some (.int x2), some (.long x3), none, some (.int x5), none, none]) (Le_s (Le_s (Le_s (Le_s (Le_n (Le_s (Le_n (Le_n (Le_0))))))))) (X_w_most_89 hd ih _ _ _ _ _ _ _ _ hF) (Nat.le_refl _) (by omega)
    · rw [if_neg hc] at hF
      refine Ex_go 1 (pc' := 89) (L' := [some (.ref 0), some (.int x1), some (.int x2), some (.long x3), none, some (.int x5), none, none]) (st' := [.long (-1 : Int64)]) (σ' := (S, M, O)) (rfl) ?_
      exact Ex_mono (L := [some (.ref 0), some (.int x1), some (.int x2), some (.long x3), none, some (.int x5), none, none]) (Le_s (Le_s (Le_s (Le_s (Le_n (Le_s (Le_n (Le_n (Le_0))))))))) (X_w_most_89 hd ih _ _ _ _ _ _ _ _ hF) (Nat.le_refl _) (by omega)
def F_w_most (x1 : Int32) (S : Sto) : Option ((Int32 ⊕ Nat) × Sto) := if x1 < 0 then F_w_most_15 S else if x1 ≤ (gi S 22) then b2 (F_Sh_measure (gl S 26) (gl S 27) S) (fun r1 S3 => F_w_most_53 FU x1 (-1 : Int32) (-1 : Int64) (0 : Int32) S3) else F_w_most_15 S
set_option maxRecDepth 100000 in
theorem X_w_most {nL : Nat} {xs : Nat → Int32} {M : Sto} {O : Sto} {d : Nat} (hd : 9 ≤ d) : ∀ (x1 : Int32) (S : Sto) (r : Int32 ⊕ Nat) (S' : Sto), F_w_most x1 S = some (r, S') → EX nL xs 1 MI_166 d 0 [some (.ref 0), some (.int x1), none, none, none, none, none, none] [] (S, M, O) (rsI r) (S', M, O) := by
  intro x1 S r S' hF
  unfold F_w_most at hF
  refine Ex_go 2 (pc' := if x1 < 0 then 15 else 4) (L' := [some (.ref 0), some (.int x1), none, none, none, none, none, none]) (st' := []) (σ' := (S, M, O)) (rfl) ?_
  refine Ex_br (fun hc => ?_) (fun hc => ?_)
  · rw [if_pos hc] at hF
    exact Ex_mono (L := [none, none, none, none, none, none, none, none]) (Le_n (Le_n (Le_n (Le_n (Le_n (Le_n (Le_n (Le_n (Le_0))))))))) (X_w_most_15 hd _ _ _ hF) (Nat.le_refl _) (by omega)
  · rw [if_neg hc] at hF
    refine Ex_go 5 (pc' := if x1 ≤ (gi S 22) then 23 else 15) (L' := [some (.ref 0), some (.int x1), none, none, none, none, none, none]) (st' := []) (σ' := (S, M, O)) (rfl) ?_
    refine Ex_br (fun hc => ?_) (fun hc => ?_)
    · rw [if_pos hc] at hF
      refine Ex_go 8 (pc' := 41) (L' := [some (.ref 0), some (.int x1), none, none, none, none, none, none]) (st' := [.long (gl S 27), .long (gl S 26), .ref 21]) (σ' := (S, M, O)) (rfl) ?_
      obtain ⟨r1, S3, hx2, hF⟩ := b2_i hF
      refine Ex_callK (K1 := 0) (K2 := 1) (kind := 2) (y := 143) (as := [.ref 21, .long (gl S 26), .long (gl S 27)]) (rest := []) (L0 := [some (.ref 21), some (.long (gl S 26)), none, some (.long (gl S 27)), none, none]) (d' := 8) (v := none) (σ1 := (S3, M, O)) rfl rfl mt_143 rfl rfl (by omega) (X_Sh_measure (Nat.le_refl _) _ _ _ _ _ hx2) (Ex_st (st2 := []) rfl ?_) (by omega)
      refine Ex_go 6 (pc' := 53) (L' := [some (.ref 0), some (.int x1), some (.int (-1 : Int32)), some (.long (-1 : Int64)), none, some (.int (0 : Int32)), none, none]) (st' := []) (σ' := (S3, M, O)) (rfl) ?_
      exact Ex_mono (L := [some (.ref 0), some (.int x1), some (.int (-1 : Int32)), some (.long (-1 : Int64)), none, some (.int (0 : Int32)), none, none]) (Le_s (Le_s (Le_s (Le_s (Le_n (Le_s (Le_n (Le_n (Le_0))))))))) (X_w_most_53 hd FU _ _ _ _ _ _ _ hF) (Nat.le_refl _) (by omega)
    · rw [if_neg hc] at hF
      exact Ex_mono (L := [none, none, none, none, none, none, none, none]) (Le_n (Le_n (Le_n (Le_n (Le_n (Le_n (Le_n (Le_n (Le_0))))))))) (X_w_most_15 hd _ _ _ hF) (Nat.le_refl _) (by omega)
def F_l_most (x1 : Int32) (S : Sto) (O : Sto) : Option (Int32 × Sto × Sto) := b2 (F_w_most x1 S) (fun r1 S3 => su r1 (fun v4 => some ((0 : Int32), S3, (ul O 2000 (vp_updL (al O 2000) (Int32.toNatClampNeg (0 : Int32)) (Int32.toInt64 v4))))) (fun z5 => if z5 = 0 then some ((1 : Int32), S3, O) else (none)))
set_option maxRecDepth 100000 in
theorem X_l_most {nL : Nat} {xs : Nat → Int32} {M : Sto} {d : Nat} (hd : 10 ≤ d) : ∀ (x1 : Int32) (S : Sto) (O : Sto) (r : Int32) (S' : Sto) (O' : Sto), F_l_most x1 S O = some (r, S', O') → EX nL xs 1 MI_167 d 0 [some (.ref 0), some (.int x1), some (.ref 2000), none] [] (S, M, O) (.inl (some (.int r))) (S', M, O') := by
  intro x1 S O r S' O' hF
  unfold F_l_most at hF
  refine Ex_go 4 (pc' := 4) (L' := [some (.ref 0), some (.int x1), some (.ref 2000), none]) (st' := [.int x1, .ref 0, .int (0 : Int32), .ref 2000]) (σ' := (S, M, O)) (rfl) ?_
  obtain ⟨r1, S3, hx2, hF⟩ := b2_i hF
  cases r1 with
  | inl v4 =>
    rw [su_l] at hF
    refine Ex_callK (K1 := 1) (K2 := 0) (kind := 3) (y := 166) (as := [.ref 0, .int x1]) (rest := [.int (0 : Int32), .ref 2000]) (L0 := [some (.ref 0), some (.int x1), none, none, none, none, none, none]) (d' := 9) (v := some (.int v4)) (σ1 := (S3, M, O)) rfl rfl mt_166 rfl rfl (by omega) (X_w_most (Nat.le_refl _) _ _ _ _ hx2) (Ex_st (st2 := [.int v4, .int (0 : Int32), .ref 2000]) rfl ?_) (by omega)
    refine Ex_go 1 (pc' := 8) (L' := [some (.ref 0), some (.int x1), some (.ref 2000), none]) (st' := [.long (Int32.toInt64 v4), .int (0 : Int32), .ref 2000]) (σ' := (S3, M, O)) (rfl) ?_
    refine Ex_chk (b := ib (0 : Int32) 1) (pc' := 9) (L' := [some (.ref 0), some (.int x1), some (.ref 2000), none]) (st' := []) (σ' := (S3, M, (ul O 2000 (vp_updL (al O 2000) (Int32.toNatClampNeg (0 : Int32)) (Int32.toInt64 v4))))) rfl (by decide) ?_
    refine Ex_go 2 (pc' := 16) (L' := [some (.ref 0), some (.int x1), some (.ref 2000), none]) (st' := [.int (0 : Int32)]) (σ' := (S3, M, (ul O 2000 (vp_updL (al O 2000) (Int32.toNatClampNeg (0 : Int32)) (Int32.toInt64 v4))))) (rfl) ?_
    cases hF
    exact Ex_fin rfl
  | inr z5 =>
    by_cases hz0 : z5 = 0
    · have hF : (if z5 = 0 then _ else _) = _ := hF
      rw [if_pos hz0] at hF
      subst hz0
      refine Ex_callX (K1 := 1) (K2 := 0) (y := 166) (as := [.ref 0, .int x1]) (rest := [.int (0 : Int32), .ref 2000]) (L0 := [some (.ref 0), some (.int x1), none, none, none, none, none, none]) (d' := 9) (σ1 := (S3, M, O)) (x := 0) (pc' := 13) (i := 3) rfl rfl mt_166 rfl rfl (by omega) (X_w_most (Nat.le_refl _) _ _ _ _ hx2) rfl (Ex_L (L2 := [some (.ref 0), some (.int x1), some (.ref 2000), none]) rfl ?_) (by omega)
      refine Ex_go 1 (pc' := 14) (L' := [some (.ref 0), some (.int x1), some (.ref 2000), none]) (st' := [.int (1 : Int32)]) (σ' := (S3, M, O)) (rfl) ?_
      cases hF
      exact Ex_fin rfl
    have hF : (if z5 = 0 then _ else _) = _ := hF
    rw [if_neg hz0] at hF
    cases hF
def F_m_choose_5 : Nat → Int32 → Int32 → Int64 → Int32 → Option Int64
  | 0, _, _, _, _ => none
  | n + 1, x0, x1, x2, x4 => if x1 ≤ x4 then some x2 else ck (nzL (Int32.toInt64 (x4 + (1 : Int32)))) (nm ((x2 * (Int32.toInt64 (x0 - x4))) / (Int32.toInt64 (x4 + (1 : Int32)))) (fun t2 => F_m_choose_5 n x0 x1 t2 (x4 + (1 : Int32))))
set_option maxRecDepth 100000 in
theorem X_m_choose_5 {nL : Nat} {xs : Nat → Int32} {S : Sto} {M : Sto} {O : Sto} {d : Nat} (hd : 1 ≤ d) : ∀ n : Nat, ∀ (x0 : Int32) (x1 : Int32) (x2 : Int64) (x4 : Int32) (r : Int64), F_m_choose_5 n x0 x1 x2 x4 = some r → EX nL xs 0 MI_148 d 5 [some (.int x0), some (.int x1), some (.long x2), none, some (.int x4)] [] (S, M, O) (.inl (some (.long r))) (S, M, O) := by
  intro n
  induction n with
  | zero => intro x0 x1 x2 x4 r hF; cases hF
  | succ n ih =>
  intro x0 x1 x2 x4 r hF
  unfold F_m_choose_5 at hF
  refine Ex_go 3 (pc' := if x1 ≤ x4 then 31 else 11) (L' := [some (.int x0), some (.int x1), some (.long x2), none, some (.int x4)]) (st' := []) (σ' := (S, M, O)) (rfl) ?_
  refine Ex_br (fun hc => ?_) (fun hc => ?_)
  · rw [if_pos hc] at hF
    refine Ex_go 1 (pc' := 32) (L' := [some (.int x0), some (.int x1), some (.long x2), none, some (.int x4)]) (st' := [.long x2]) (σ' := (S, M, O)) (rfl) ?_
    cases hF
    exact Ex_fin rfl
  · rw [if_neg hc] at hF
    refine Ex_go 10 (pc' := 23) (L' := [some (.int x0), some (.int x1), some (.long x2), none, some (.int x4)]) (st' := [.long (Int32.toInt64 (x4 + (1 : Int32))), .long (x2 * (Int32.toInt64 (x0 - x4)))]) (σ' := (S, M, O)) (rfl) ?_
    obtain ⟨hc1, hF⟩ := ck_i hF
    refine Ex_chk (b := nzL (Int32.toInt64 (x4 + (1 : Int32)))) (pc' := 24) (L' := [some (.int x0), some (.int x1), some (.long x2), none, some (.int x4)]) (st' := [.long ((x2 * (Int32.toInt64 (x0 - x4))) / (Int32.toInt64 (x4 + (1 : Int32))))]) (σ' := (S, M, O)) rfl hc1 ?_
    obtain ⟨t2, ht3, hF⟩ := nm_i hF
    refine Ex_go 1 (pc' := 25) (L' := [some (.int x0), some (.int x1), some (.long t2), none, some (.int x4)]) (st' := []) (σ' := (S, M, O)) (by rw [ht3]; rfl) ?_
    refine Ex_go 2 (pc' := 5) (L' := [some (.int x0), some (.int x1), some (.long t2), none, some (.int (x4 + (1 : Int32)))]) (st' := []) (σ' := (S, M, O)) (rfl) ?_
    exact Ex_mono (L := [some (.int x0), some (.int x1), some (.long t2), none, some (.int (x4 + (1 : Int32)))]) (Le_s (Le_s (Le_s (Le_n (Le_s (Le_0)))))) (ih _ _ _ _ _ hF) (Nat.le_refl _) (by omega)
def F_m_choose (x0 : Int32) (x1 : Int32) : Option Int64 := F_m_choose_5 FU x0 x1 (1 : Int64) (0 : Int32)
set_option maxRecDepth 100000 in
theorem X_m_choose {nL : Nat} {xs : Nat → Int32} {S : Sto} {M : Sto} {O : Sto} {d : Nat} (hd : 1 ≤ d) : ∀ (x0 : Int32) (x1 : Int32) (r : Int64), F_m_choose x0 x1 = some r → EX nL xs 0 MI_148 d 0 [some (.int x0), some (.int x1), none, none, none] [] (S, M, O) (.inl (some (.long r))) (S, M, O) := by
  intro x0 x1 r hF
  unfold F_m_choose at hF
  refine Ex_go 4 (pc' := 5) (L' := [some (.int x0), some (.int x1), some (.long (1 : Int64)), none, some (.int (0 : Int32))]) (st' := []) (σ' := (S, M, O)) (rfl) ?_
  exact Ex_mono (L := [some (.int x0), some (.int x1), some (.long (1 : Int64)), none, some (.int (0 : Int32))]) (Le_s (Le_s (Le_s (Le_n (Le_s (Le_0)))))) (X_m_choose_5 hd FU _ _ _ _ _ hF) (Nat.le_refl _) (by omega)
def F_m_justOf_72 (k5 : Int32 → Int32 → Int64 → Int32 → Sto → Option (Int64 × Sto)) (x1 : Int32) (x2 : Int32) (x3 : Int64) (x5 : Int32) (M : Sto) : Option (Int64 × Sto) := k5 x1 x2 x3 (x5 + (1 : Int32)) M
set_option maxRecDepth 100000 in
theorem X_m_justOf_72 {nL : Nat} {xs : Nat → Int32} {S : Sto} {O : Sto} {d : Nat} (hd : 9 ≤ d) {k5 : Int32 → Int32 → Int64 → Int32 → Sto → Option (Int64 × Sto)} (hk5 : ∀ (x1 : Int32) (x2 : Int32) (x3 : Int64) (x5 : Int32) (M : Sto) (r : Int64) (M' : Sto), k5 x1 x2 x3 x5 M = some (r, M') → EX nL xs 0 MI_149 d 5 [some (.ref 1000), some (.int x1), some (.int x2), some (.long x3), none, some (.int x5), none, none, none] [] (S, M, O) (.inl (some (.long r))) (S, M', O)) : ∀ (x1 : Int32) (x2 : Int32) (x3 : Int64) (x5 : Int32) (M : Sto) (r : Int64) (M' : Sto), F_m_justOf_72 k5 x1 x2 x3 x5 M = some (r, M') → EX nL xs 0 MI_149 d 72 [some (.ref 1000), some (.int x1), some (.int x2), some (.long x3), none, some (.int x5), none, none, none] [] (S, M, O) (.inl (some (.long r))) (S, M', O) := by
  intro x1 x2 x3 x5 M r M' hF
  unfold F_m_justOf_72 at hF
  refine Ex_go 2 (pc' := 5) (L' := [some (.ref 1000), some (.int x1), some (.int x2), some (.long x3), none, some (.int (x5 + (1 : Int32))), none, none, none]) (st' := []) (σ' := (S, M, O)) (rfl) ?_
  exact Ex_mono (L := [some (.ref 1000), some (.int x1), some (.int x2), some (.long x3), none, some (.int (x5 + (1 : Int32))), none, none, none]) (Le_s (Le_s (Le_s (Le_s (Le_n (Le_s (Le_n (Le_n (Le_n (Le_0)))))))))) (hk5 _ _ _ _ _ _ _ hF) (Nat.le_refl _) (by omega)
def F_m_justOf_70 (k5 : Int32 → Int32 → Int64 → Int32 → Sto → Option (Int64 × Sto)) (x1 : Int32) (x2 : Int32) (x5 : Int32) (s0 : Int64) (s1 : Int64) (M : Sto) : Option (Int64 × Sto) := F_m_justOf_72 k5 x1 x2 (s0 + s1) x5 M
set_option maxRecDepth 100000 in
theorem X_m_justOf_70 {nL : Nat} {xs : Nat → Int32} {S : Sto} {O : Sto} {d : Nat} (hd : 9 ≤ d) {k5 : Int32 → Int32 → Int64 → Int32 → Sto → Option (Int64 × Sto)} (hk5 : ∀ (x1 : Int32) (x2 : Int32) (x3 : Int64) (x5 : Int32) (M : Sto) (r : Int64) (M' : Sto), k5 x1 x2 x3 x5 M = some (r, M') → EX nL xs 0 MI_149 d 5 [some (.ref 1000), some (.int x1), some (.int x2), some (.long x3), none, some (.int x5), none, none, none] [] (S, M, O) (.inl (some (.long r))) (S, M', O)) : ∀ (x1 : Int32) (x2 : Int32) (x5 : Int32) (s0 : Int64) (s1 : Int64) (M : Sto) (r : Int64) (M' : Sto), F_m_justOf_70 k5 x1 x2 x5 s0 s1 M = some (r, M') → EX nL xs 0 MI_149 d 70 [some (.ref 1000), some (.int x1), some (.int x2), none, none, some (.int x5), none, none, none] [.long s1, .long s0] (S, M, O) (.inl (some (.long r))) (S, M', O) := by
  intro x1 x2 x5 s0 s1 M r M' hF
  unfold F_m_justOf_70 at hF
  refine Ex_go 2 (pc' := 72) (L' := [some (.ref 1000), some (.int x1), some (.int x2), some (.long (s0 + s1)), none, some (.int x5), none, none, none]) (st' := []) (σ' := (S, M, O)) (rfl) ?_
  exact Ex_mono (L := [some (.ref 1000), some (.int x1), some (.int x2), some (.long (s0 + s1)), none, some (.int x5), none, none, none]) (Le_s (Le_s (Le_s (Le_s (Le_n (Le_s (Le_n (Le_n (Le_n (Le_0)))))))))) (X_m_justOf_72 hd hk5 _ _ _ _ _ _ _ hF) (Nat.le_refl _) (by omega)
def F_m_justOf_5 : Nat → Int32 → Int32 → Int64 → Int32 → Sto → Option (Int64 × Sto)
  | 0, _, _, _, _, _ => none
  | n + 1, x1, x2, x3, x5, M => if x1 < x5 then some (x3, M) else b1 (F_m_bitsOf (Int32.toInt64 x5)) (fun r1 => if (x5 &&& (x1 ^^^ (-1 : Int32))) = 0 then if x2 ≤ r1 then b1 (F_m_choose r1 x2) (fun r3 => b2 (F_m_allOf x5 M) (fun r5 M7 => if ((r1 - x2) - (r1 - x2) / (2 : Int32) * (2 : Int32)) = 0 then F_m_justOf_70 (F_m_justOf_5 n) x1 x2 x5 x3 (r3 * r5) M7 else F_m_justOf_70 (F_m_justOf_5 n) x1 x2 x5 x3 (-(r3 * r5)) M7)) else F_m_justOf_72 (F_m_justOf_5 n) x1 x2 x3 x5 M else F_m_justOf_72 (F_m_justOf_5 n) x1 x2 x3 x5 M)
set_option maxRecDepth 100000 in
theorem X_m_justOf_5 {nL : Nat} {xs : Nat → Int32} {S : Sto} {O : Sto} {d : Nat} (hd : 9 ≤ d) : ∀ n : Nat, ∀ (x1 : Int32) (x2 : Int32) (x3 : Int64) (x5 : Int32) (M : Sto) (r : Int64) (M' : Sto), F_m_justOf_5 n x1 x2 x3 x5 M = some (r, M') → EX nL xs 0 MI_149 d 5 [some (.ref 1000), some (.int x1), some (.int x2), some (.long x3), none, some (.int x5), none, none, none] [] (S, M, O) (.inl (some (.long r))) (S, M', O) := by
  intro n
  induction n with
  | zero => intro x1 x2 x3 x5 M r M' hF; cases hF
  | succ n ih =>
  intro x1 x2 x3 x5 M r M' hF
  unfold F_m_justOf_5 at hF
  refine Ex_go 3 (pc' := if x1 < x5 then 78 else 11) (L' := [some (.ref 1000), some (.int x1), some (.int x2), some (.long x3), none, some (.int x5), none, none, none]) (st' := []) (σ' := (S, M, O)) (rfl) ?_
  refine Ex_br (fun hc => ?_) (fun hc => ?_)
  · rw [if_pos hc] at hF
    refine Ex_go 1 (pc' := 79) (L' := [some (.ref 1000), some (.int x1), some (.int x2), some (.long x3), none, some (.int x5), none, none, none]) (st' := [.long x3]) (σ' := (S, M, O)) (rfl) ?_
    cases hF
    exact Ex_fin rfl
  · rw [if_neg hc] at hF
    refine Ex_go 2 (pc' := 14) (L' := [some (.ref 1000), some (.int x1), some (.int x2), some (.long x3), none, some (.int x5), none, none, none]) (st' := [.long (Int32.toInt64 x5)]) (σ' := (S, M, O)) (rfl) ?_
    obtain ⟨r1, hx2, hF⟩ := b1_i hF
    refine Ex_call (kind := 0) (y := 85) (as := [.long (Int32.toInt64 x5)]) (rest := []) (L0 := [some (.long (Int32.toInt64 x5)), none, none, none, none]) (d' := 1) (v := some (.int r1)) (σ1 := (S, M, O)) rfl rfl mt_85 rfl rfl (by omega) (X_m_bitsOf (Nat.le_refl _) _ _ hx2) (Ex_st (st2 := [.int r1]) rfl ?_)
    refine Ex_go 7 (pc' := if ¬ (x5 &&& (x1 ^^^ (-1 : Int32))) = 0 then 72 else 28) (L' := [some (.ref 1000), some (.int x1), some (.int x2), some (.long x3), none, some (.int x5), some (.int r1), none, none]) (st' := []) (σ' := (S, M, O)) (rfl) ?_
    refine Ex_brN (fun hc => ?_) (fun hc => ?_)
    · rw [if_pos hc] at hF
      refine Ex_go 3 (pc' := if x2 ≤ r1 then 37 else 34) (L' := [some (.ref 1000), some (.int x1), some (.int x2), some (.long x3), none, some (.int x5), some (.int r1), none, none]) (st' := []) (σ' := (S, M, O)) (rfl) ?_
      refine Ex_br (fun hc => ?_) (fun hc => ?_)
      · rw [if_pos hc] at hF
        refine Ex_go 2 (pc' := 40) (L' := [some (.ref 1000), some (.int x1), some (.int x2), some (.long x3), none, some (.int x5), some (.int r1), none, none]) (st' := [.int x2, .int r1]) (σ' := (S, M, O)) (rfl) ?_
        obtain ⟨r3, hx4, hF⟩ := b1_i hF
        refine Ex_call (kind := 0) (y := 148) (as := [.int r1, .int x2]) (rest := []) (L0 := [some (.int r1), some (.int x2), none, none, none]) (d' := 1) (v := some (.long r3)) (σ1 := (S, M, O)) rfl rfl mt_148 rfl rfl (by omega) (X_m_choose (Nat.le_refl _) _ _ _ hx4) (Ex_st (st2 := [.long r3]) rfl ?_)
        refine Ex_go 2 (pc' := 46) (L' := [some (.ref 1000), some (.int x1), some (.int x2), some (.long x3), none, some (.int x5), some (.int r1), none, none]) (st' := [.int x5, .ref 1000, .long r3]) (σ' := (S, M, O)) (rfl) ?_
        obtain ⟨r5, M7, hx6, hF⟩ := b2_i hF
        refine Ex_call (kind := 2) (y := 141) (as := [.ref 1000, .int x5]) (rest := [.long r3]) (L0 := [some (.ref 1000), some (.int x5)]) (d' := 8) (v := some (.long r5)) (σ1 := (S, M7, O)) rfl rfl mt_141 rfl rfl (by omega) (X_m_allOf (Nat.le_refl _) _ _ _ _ hx6) (Ex_st (st2 := [.long r5, .long r3]) rfl ?_)
        refine Ex_go 7 (pc' := 58) (L' := [some (.ref 1000), some (.int x1), some (.int x2), some (.long x3), none, some (.int x5), some (.int r1), some (.long (r3 * r5)), none]) (st' := [.int (2 : Int32), .int (r1 - x2), .long x3]) (σ' := (S, M7, O)) (rfl) ?_
        refine Ex_chk (b := nzI (2 : Int32)) (pc' := 59) (L' := [some (.ref 1000), some (.int x1), some (.int x2), some (.long x3), none, some (.int x5), some (.int r1), some (.long (r3 * r5)), none]) (st' := [.int ((r1 - x2) - (r1 - x2) / (2 : Int32) * (2 : Int32)), .long x3]) (σ' := (S, M7, O)) rfl (by decide) ?_
        refine Ex_go 1 (pc' := if ¬ ((r1 - x2) - (r1 - x2) / (2 : Int32) * (2 : Int32)) = 0 then 67 else 62) (L' := [some (.ref 1000), some (.int x1), some (.int x2), some (.long x3), none, some (.int x5), some (.int r1), some (.long (r3 * r5)), none]) (st' := [.long x3]) (σ' := (S, M7, O)) (rfl) ?_
        refine Ex_brN (fun hc => ?_) (fun hc => ?_)
        · rw [if_pos hc] at hF
          refine Ex_go 2 (pc' := 70) (L' := [some (.ref 1000), some (.int x1), some (.int x2), some (.long x3), none, some (.int x5), some (.int r1), some (.long (r3 * r5)), none]) (st' := [.long (r3 * r5), .long x3]) (σ' := (S, M7, O)) (rfl) ?_
          exact Ex_mono (L := [some (.ref 1000), some (.int x1), some (.int x2), none, none, some (.int x5), none, none, none]) (Le_s (Le_s (Le_s (Le_n (Le_n (Le_s (Le_n (Le_n (Le_n (Le_0)))))))))) (X_m_justOf_70 hd ih _ _ _ _ _ _ _ _ hF) (Nat.le_refl _) (by omega)
        · rw [if_neg hc] at hF
          refine Ex_go 2 (pc' := 70) (L' := [some (.ref 1000), some (.int x1), some (.int x2), some (.long x3), none, some (.int x5), some (.int r1), some (.long (r3 * r5)), none]) (st' := [.long (-(r3 * r5)), .long x3]) (σ' := (S, M7, O)) (rfl) ?_
          exact Ex_mono (L := [some (.ref 1000), some (.int x1), some (.int x2), none, none, some (.int x5), none, none, none]) (Le_s (Le_s (Le_s (Le_n (Le_n (Le_s (Le_n (Le_n (Le_n (Le_0)))))))))) (X_m_justOf_70 hd ih _ _ _ _ _ _ _ _ hF) (Nat.le_refl _) (by omega)
      · rw [if_neg hc] at hF
        refine Ex_go 1 (pc' := 72) (L' := [some (.ref 1000), some (.int x1), some (.int x2), some (.long x3), none, some (.int x5), some (.int r1), none, none]) (st' := []) (σ' := (S, M, O)) (rfl) ?_
        exact Ex_mono (L := [some (.ref 1000), some (.int x1), some (.int x2), some (.long x3), none, some (.int x5), none, none, none]) (Le_s (Le_s (Le_s (Le_s (Le_n (Le_s (Le_n (Le_n (Le_n (Le_0)))))))))) (X_m_justOf_72 hd ih _ _ _ _ _ _ _ hF) (Nat.le_refl _) (by omega)
    · rw [if_neg hc] at hF
      exact Ex_mono (L := [some (.ref 1000), some (.int x1), some (.int x2), some (.long x3), none, some (.int x5), none, none, none]) (Le_s (Le_s (Le_s (Le_s (Le_n (Le_s (Le_n (Le_n (Le_n (Le_0)))))))))) (X_m_justOf_72 hd ih _ _ _ _ _ _ _ hF) (Nat.le_refl _) (by omega)
def F_m_justOf (x1 : Int32) (x2 : Int32) (M : Sto) : Option (Int64 × Sto) := F_m_justOf_5 FU x1 x2 (0 : Int64) (0 : Int32) M
set_option maxRecDepth 100000 in
theorem X_m_justOf {nL : Nat} {xs : Nat → Int32} {S : Sto} {O : Sto} {d : Nat} (hd : 9 ≤ d) : ∀ (x1 : Int32) (x2 : Int32) (M : Sto) (r : Int64) (M' : Sto), F_m_justOf x1 x2 M = some (r, M') → EX nL xs 0 MI_149 d 0 [some (.ref 1000), some (.int x1), some (.int x2), none, none, none, none, none, none] [] (S, M, O) (.inl (some (.long r))) (S, M', O) := by
  intro x1 x2 M r M' hF
  unfold F_m_justOf at hF
  refine Ex_go 4 (pc' := 5) (L' := [some (.ref 1000), some (.int x1), some (.int x2), some (.long (0 : Int64)), none, some (.int (0 : Int32)), none, none, none]) (st' := []) (σ' := (S, M, O)) (rfl) ?_
  exact Ex_mono (L := [some (.ref 1000), some (.int x1), some (.int x2), some (.long (0 : Int64)), none, some (.int (0 : Int32)), none, none, none]) (Le_s (Le_s (Le_s (Le_s (Le_n (Le_s (Le_n (Le_n (Le_n (Le_0)))))))))) (X_m_justOf_5 hd FU _ _ _ _ _ _ _ hF) (Nat.le_refl _) (by omega)
def F_m_someOf (x1 : Int32) (M : Sto) : Option (Int64 × Sto) := b2 (F_m_justOf x1 (0 : Int32) M) (fun r1 M3 => some (((((gl M 1014) - (gl M 1013)) + (1 : Int64)) - r1), M3))
set_option maxRecDepth 100000 in
theorem X_m_someOf {nL : Nat} {xs : Nat → Int32} {S : Sto} {O : Sto} {d : Nat} (hd : 10 ≤ d) : ∀ (x1 : Int32) (M : Sto) (r : Int64) (M' : Sto), F_m_someOf x1 M = some (r, M') → EX nL xs 0 MI_150 d 0 [some (.ref 1000), some (.int x1)] [] (S, M, O) (.inl (some (.long r))) (S, M', O) := by
  intro x1 M r M' hF
  unfold F_m_someOf at hF
  refine Ex_go 10 (pc' := 14) (L' := [some (.ref 1000), some (.int x1)]) (st' := [.int (0 : Int32), .int x1, .ref 1000, .long (((gl M 1014) - (gl M 1013)) + (1 : Int64))]) (σ' := (S, M, O)) (rfl) ?_
  obtain ⟨r1, M3, hx2, hF⟩ := b2_i hF
  refine Ex_call (kind := 2) (y := 149) (as := [.ref 1000, .int x1, .int (0 : Int32)]) (rest := [.long (((gl M 1014) - (gl M 1013)) + (1 : Int64))]) (L0 := [some (.ref 1000), some (.int x1), some (.int (0 : Int32)), none, none, none, none, none, none]) (d' := 9) (v := some (.long r1)) (σ1 := (S, M3, O)) rfl rfl mt_149 rfl rfl (by omega) (X_m_justOf (Nat.le_refl _) _ _ _ _ _ hx2) (Ex_st (st2 := [.long r1, .long (((gl M 1014) - (gl M 1013)) + (1 : Int64))]) rfl ?_)
  refine Ex_go 1 (pc' := 18) (L' := [some (.ref 1000), some (.int x1)]) (st' := [.long ((((gl M 1014) - (gl M 1013)) + (1 : Int64)) - r1)]) (σ' := (S, M3, O)) (rfl) ?_
  cases hF
  exact Ex_fin rfl
def F_m_most_89 (k34 : Int32 → Int32 → Int64 → Int32 → Sto → Option (Int32 × Sto)) (x1 : Int32) (x2 : Int32) (x3 : Int64) (x5 : Int32) (M : Sto) : Option (Int32 × Sto) := k34 x1 x2 x3 (x5 + (1 : Int32)) M
set_option maxRecDepth 100000 in
theorem X_m_most_89 {nL : Nat} {xs : Nat → Int32} {S : Sto} {O : Sto} {d : Nat} (hd : 11 ≤ d) {k34 : Int32 → Int32 → Int64 → Int32 → Sto → Option (Int32 × Sto)} (hk34 : ∀ (x1 : Int32) (x2 : Int32) (x3 : Int64) (x5 : Int32) (M : Sto) (r : Int32) (M' : Sto), k34 x1 x2 x3 x5 M = some (r, M') → EX nL xs 0 MI_168 d 34 [some (.ref 1000), some (.int x1), some (.int x2), some (.long x3), none, some (.int x5), none, none] [] (S, M, O) (.inl (some (.int r))) (S, M', O)) : ∀ (x1 : Int32) (x2 : Int32) (x3 : Int64) (x5 : Int32) (M : Sto) (r : Int32) (M' : Sto), F_m_most_89 k34 x1 x2 x3 x5 M = some (r, M') → EX nL xs 0 MI_168 d 89 [some (.ref 1000), some (.int x1), some (.int x2), some (.long x3), none, some (.int x5), none, none] [] (S, M, O) (.inl (some (.int r))) (S, M', O) := by
  intro x1 x2 x3 x5 M r M' hF
  unfold F_m_most_89 at hF
  refine Ex_go 2 (pc' := 34) (L' := [some (.ref 1000), some (.int x1), some (.int x2), some (.long x3), none, some (.int (x5 + (1 : Int32))), none, none]) (st' := []) (σ' := (S, M, O)) (rfl) ?_
  exact Ex_mono (L := [some (.ref 1000), some (.int x1), some (.int x2), some (.long x3), none, some (.int (x5 + (1 : Int32))), none, none]) (Le_s (Le_s (Le_s (Le_s (Le_n (Le_s (Le_n (Le_n (Le_0))))))))) (hk34 _ _ _ _ _ _ _ hF) (Nat.le_refl _) (by omega)
def F_m_most_83 (k34 : Int32 → Int32 → Int64 → Int32 → Sto → Option (Int32 × Sto)) (x1 : Int32) (x5 : Int32) (x6 : Int64) (M : Sto) : Option (Int32 × Sto) := F_m_most_89 k34 x1 x5 x6 x5 M
set_option maxRecDepth 100000 in
theorem X_m_most_83 {nL : Nat} {xs : Nat → Int32} {S : Sto} {O : Sto} {d : Nat} (hd : 11 ≤ d) {k34 : Int32 → Int32 → Int64 → Int32 → Sto → Option (Int32 × Sto)} (hk34 : ∀ (x1 : Int32) (x2 : Int32) (x3 : Int64) (x5 : Int32) (M : Sto) (r : Int32) (M' : Sto), k34 x1 x2 x3 x5 M = some (r, M') → EX nL xs 0 MI_168 d 34 [some (.ref 1000), some (.int x1), some (.int x2), some (.long x3), none, some (.int x5), none, none] [] (S, M, O) (.inl (some (.int r))) (S, M', O)) : ∀ (x1 : Int32) (x5 : Int32) (x6 : Int64) (M : Sto) (r : Int32) (M' : Sto), F_m_most_83 k34 x1 x5 x6 M = some (r, M') → EX nL xs 0 MI_168 d 83 [some (.ref 1000), some (.int x1), none, none, none, some (.int x5), some (.long x6), none] [] (S, M, O) (.inl (some (.int r))) (S, M', O) := by
  intro x1 x5 x6 M r M' hF
  unfold F_m_most_83 at hF
  refine Ex_go 4 (pc' := 89) (L' := [some (.ref 1000), some (.int x1), some (.int x5), some (.long x6), none, some (.int x5), some (.long x6), none]) (st' := []) (σ' := (S, M, O)) (rfl) ?_
  exact Ex_mono (L := [some (.ref 1000), some (.int x1), some (.int x5), some (.long x6), none, some (.int x5), none, none]) (Le_s (Le_s (Le_s (Le_s (Le_n (Le_s (Le_n (Le_n (Le_0))))))))) (X_m_most_89 hd hk34 _ _ _ _ _ _ _ hF) (Nat.le_refl _) (by omega)
def F_m_most_34 : Nat → Int32 → Int32 → Int64 → Int32 → Sto → Option (Int32 × Sto)
  | 0, _, _, _, _, _ => none
  | n + 1, x1, x2, x3, x5, M => if ((1 : Int32) <<< ((ai M 1003 (Int32.toNatClampNeg (0 : Int32))) &&& 31)) ≤ x5 then some (x2, M) else b1 (F_m_bitsOf (Int32.toInt64 x5)) (fun r1 => if r1 = x1 then b2 (F_m_someOf x5 M) (fun r3 M5 => if x2 = (-1 : Int32) then F_m_most_83 (F_m_most_34 n) x1 x5 r3 M5 else if x3 < r3 then F_m_most_83 (F_m_most_34 n) x1 x5 r3 M5 else F_m_most_89 (F_m_most_34 n) x1 x2 x3 x5 M5) else F_m_most_89 (F_m_most_34 n) x1 x2 x3 x5 M)
set_option maxRecDepth 100000 in
theorem X_m_most_34 {nL : Nat} {xs : Nat → Int32} {S : Sto} {O : Sto} {d : Nat} (hd : 11 ≤ d) : ∀ n : Nat, ∀ (x1 : Int32) (x2 : Int32) (x3 : Int64) (x5 : Int32) (M : Sto) (r : Int32) (M' : Sto), F_m_most_34 n x1 x2 x3 x5 M = some (r, M') → EX nL xs 0 MI_168 d 34 [some (.ref 1000), some (.int x1), some (.int x2), some (.long x3), none, some (.int x5), none, none] [] (S, M, O) (.inl (some (.int r))) (S, M', O) := by
  intro n
  induction n with
  | zero => intro x1 x2 x3 x5 M r M' hF; cases hF
  | succ n ih =>
  intro x1 x2 x3 x5 M r M' hF
  unfold F_m_most_34 at hF
  refine Ex_go 5 (pc' := 42) (L' := [some (.ref 1000), some (.int x1), some (.int x2), some (.long x3), none, some (.int x5), none, none]) (st' := [.int (0 : Int32), .ref 1003, .int (1 : Int32), .int x5]) (σ' := (S, M, O)) (rfl) ?_
  refine Ex_chk (b := ib (0 : Int32) 6) (pc' := 43) (L' := [some (.ref 1000), some (.int x1), some (.int x2), some (.long x3), none, some (.int x5), none, none]) (st' := [.int (ai M 1003 (Int32.toNatClampNeg (0 : Int32))), .int (1 : Int32), .int x5]) (σ' := (S, M, O)) rfl (by decide) ?_
  refine Ex_go 2 (pc' := if ((1 : Int32) <<< ((ai M 1003 (Int32.toNatClampNeg (0 : Int32))) &&& 31)) ≤ x5 then 95 else 47) (L' := [some (.ref 1000), some (.int x1), some (.int x2), some (.long x3), none, some (.int x5), none, none]) (st' := []) (σ' := (S, M, O)) (rfl) ?_
  refine Ex_br (fun hc => ?_) (fun hc => ?_)
  · rw [if_pos hc] at hF
    refine Ex_go 1 (pc' := 96) (L' := [some (.ref 1000), some (.int x1), some (.int x2), some (.long x3), none, some (.int x5), none, none]) (st' := [.int x2]) (σ' := (S, M, O)) (rfl) ?_
    cases hF
    exact Ex_fin rfl
  · rw [if_neg hc] at hF
    refine Ex_go 2 (pc' := 50) (L' := [some (.ref 1000), some (.int x1), some (.int x2), some (.long x3), none, some (.int x5), none, none]) (st' := [.long (Int32.toInt64 x5)]) (σ' := (S, M, O)) (rfl) ?_
    obtain ⟨r1, hx2, hF⟩ := b1_i hF
    refine Ex_call (kind := 0) (y := 85) (as := [.long (Int32.toInt64 x5)]) (rest := []) (L0 := [some (.long (Int32.toInt64 x5)), none, none, none, none]) (d' := 1) (v := some (.int r1)) (σ1 := (S, M, O)) rfl rfl mt_85 rfl rfl (by omega) (X_m_bitsOf (Nat.le_refl _) _ _ hx2) (Ex_st (st2 := [.int r1]) rfl ?_)
    refine Ex_go 2 (pc' := if r1 = x1 then 60 else 57) (L' := [some (.ref 1000), some (.int x1), some (.int x2), some (.long x3), none, some (.int x5), none, none]) (st' := []) (σ' := (S, M, O)) (rfl) ?_
    refine Ex_br (fun hc => ?_) (fun hc => ?_)
    · rw [if_pos hc] at hF
      refine Ex_go 2 (pc' := 63) (L' := [some (.ref 1000), some (.int x1), some (.int x2), some (.long x3), none, some (.int x5), none, none]) (st' := [.int x5, .ref 1000]) (σ' := (S, M, O)) (rfl) ?_
      obtain ⟨r3, M5, hx4, hF⟩ := b2_i hF
      refine Ex_call (kind := 2) (y := 150) (as := [.ref 1000, .int x5]) (rest := []) (L0 := [some (.ref 1000), some (.int x5)]) (d' := 10) (v := some (.long r3)) (σ1 := (S, M5, O)) rfl rfl mt_150 rfl rfl (by omega) (X_m_someOf (Nat.le_refl _) _ _ _ _ hx4) (Ex_st (st2 := [.long r3]) rfl ?_)
      refine Ex_go 4 (pc' := if x2 = (-1 : Int32) then 83 else 73) (L' := [some (.ref 1000), some (.int x1), some (.int x2), some (.long x3), none, some (.int x5), some (.long r3), none]) (st' := []) (σ' := (S, M5, O)) (rfl) ?_
      refine Ex_br (fun hc => ?_) (fun hc => ?_)
      · rw [if_pos hc] at hF
        exact Ex_mono (L := [some (.ref 1000), some (.int x1), none, none, none, some (.int x5), some (.long r3), none]) (Le_s (Le_s (Le_n (Le_n (Le_n (Le_s (Le_s (Le_n (Le_0))))))))) (X_m_most_83 hd ih _ _ _ _ _ _ hF) (Nat.le_refl _) (by omega)
      · rw [if_neg hc] at hF
        refine Ex_go 4 (pc' := if 0 < (lg_cmp r3 x3) then 83 else 80) (L' := [some (.ref 1000), some (.int x1), some (.int x2), some (.long x3), none, some (.int x5), some (.long r3), none]) (st' := []) (σ' := (S, M5, O)) (rfl) ?_
        refine Ex_brI lc_gt (fun hc => ?_) (fun hc => ?_)
        · rw [if_pos hc] at hF
          exact Ex_mono (L := [some (.ref 1000), some (.int x1), none, none, none, some (.int x5), some (.long r3), none]) (Le_s (Le_s (Le_n (Le_n (Le_n (Le_s (Le_s (Le_n (Le_0))))))))) (X_m_most_83 hd ih _ _ _ _ _ _ hF) (Nat.le_refl _) (by omega)
        · rw [if_neg hc] at hF
          refine Ex_go 1 (pc' := 89) (L' := [some (.ref 1000), some (.int x1), some (.int x2), some (.long x3), none, some (.int x5), some (.long r3), none]) (st' := []) (σ' := (S, M5, O)) (rfl) ?_
          exact Ex_mono (L := [some (.ref 1000), some (.int x1), some (.int x2), some (.long x3), none, some (.int x5), none, none]) (Le_s (Le_s (Le_s (Le_s (Le_n (Le_s (Le_n (Le_n (Le_0))))))))) (X_m_most_89 hd ih _ _ _ _ _ _ _ hF) (Nat.le_refl _) (by omega)
    · rw [if_neg hc] at hF
      refine Ex_go 1 (pc' := 89) (L' := [some (.ref 1000), some (.int x1), some (.int x2), some (.long x3), none, some (.int x5), none, none]) (st' := []) (σ' := (S, M, O)) (rfl) ?_
      exact Ex_mono (L := [some (.ref 1000), some (.int x1), some (.int x2), some (.long x3), none, some (.int x5), none, none]) (Le_s (Le_s (Le_s (Le_s (Le_n (Le_s (Le_n (Le_n (Le_0))))))))) (X_m_most_89 hd ih _ _ _ _ _ _ _ hF) (Nat.le_refl _) (by omega)
def F_m_most (x1 : Int32) (M : Sto) : Option (Int32 × Sto) := b1 (F_m_isIn (Int32.toInt64 x1) (0 : Int64) (Int32.toInt64 (ai (si M 1001 (0 : Int32)) 1003 (Int32.toNatClampNeg (0 : Int32))))) (fun r1 => if r1 = 0 then b2 (F_m_fail (1 : Int32) (si M 1001 (0 : Int32))) (fun r3 M5 => some (r3, M5)) else F_m_most_34 FU x1 (-1 : Int32) (0 : Int64) (0 : Int32) (si M 1001 (0 : Int32)))
set_option maxRecDepth 100000 in
theorem X_m_most {nL : Nat} {xs : Nat → Int32} {S : Sto} {O : Sto} {d : Nat} (hd : 11 ≤ d) : ∀ (x1 : Int32) (M : Sto) (r : Int32) (M' : Sto), F_m_most x1 M = some (r, M') → EX nL xs 0 MI_168 d 0 [some (.ref 1000), some (.int x1), none, none, none, none, none, none] [] (S, M, O) (.inl (some (.int r))) (S, M', O) := by
  intro x1 M r M' hF
  unfold F_m_most at hF
  refine Ex_go 9 (pc' := 13) (L' := [some (.ref 1000), some (.int x1), none, none, none, none, none, none]) (st' := [.int (0 : Int32), .ref 1003, .long (0 : Int64), .long (Int32.toInt64 x1)]) (σ' := (S, (si M 1001 (0 : Int32)), O)) (rfl) ?_
  refine Ex_chk (b := ib (0 : Int32) 6) (pc' := 14) (L' := [some (.ref 1000), some (.int x1), none, none, none, none, none, none]) (st' := [.int (ai (si M 1001 (0 : Int32)) 1003 (Int32.toNatClampNeg (0 : Int32))), .long (0 : Int64), .long (Int32.toInt64 x1)]) (σ' := (S, (si M 1001 (0 : Int32)), O)) rfl (by decide) ?_
  refine Ex_go 1 (pc' := 15) (L' := [some (.ref 1000), some (.int x1), none, none, none, none, none, none]) (st' := [.long (Int32.toInt64 (ai (si M 1001 (0 : Int32)) 1003 (Int32.toNatClampNeg (0 : Int32)))), .long (0 : Int64), .long (Int32.toInt64 x1)]) (σ' := (S, (si M 1001 (0 : Int32)), O)) (rfl) ?_
  obtain ⟨r1, hx2, hF⟩ := b1_i hF
  refine Ex_call (kind := 0) (y := 91) (as := [.long (Int32.toInt64 x1), .long (0 : Int64), .long (Int32.toInt64 (ai (si M 1001 (0 : Int32)) 1003 (Int32.toNatClampNeg (0 : Int32))))]) (rest := []) (L0 := [some (.long (Int32.toInt64 x1)), none, some (.long (0 : Int64)), none, some (.long (Int32.toInt64 (ai (si M 1001 (0 : Int32)) 1003 (Int32.toNatClampNeg (0 : Int32))))), none]) (d' := 1) (v := some (.int r1)) (σ1 := (S, (si M 1001 (0 : Int32)), O)) rfl rfl mt_91 rfl rfl (by omega) (X_m_isIn (Nat.le_refl _) _ _ _ _ hx2) (Ex_st (st2 := [.int r1]) rfl ?_)
  refine Ex_go 1 (pc' := if ¬ r1 = 0 then 27 else 21) (L' := [some (.ref 1000), some (.int x1), none, none, none, none, none, none]) (st' := []) (σ' := (S, (si M 1001 (0 : Int32)), O)) (rfl) ?_
  refine Ex_brN (fun hc => ?_) (fun hc => ?_)
  · rw [if_pos hc] at hF
    refine Ex_go 2 (pc' := 23) (L' := [some (.ref 1000), some (.int x1), none, none, none, none, none, none]) (st' := [.int (1 : Int32), .ref 1000]) (σ' := (S, (si M 1001 (0 : Int32)), O)) (rfl) ?_
    obtain ⟨r3, M5, hx4, hF⟩ := b2_i hF
    refine Ex_call (kind := 2) (y := 50) (as := [.ref 1000, .int (1 : Int32)]) (rest := []) (L0 := [some (.ref 1000), some (.int (1 : Int32))]) (d' := 1) (v := some (.int r3)) (σ1 := (S, M5, O)) rfl rfl mt_50 rfl rfl (by omega) (X_m_fail (Nat.le_refl _) _ _ _ _ hx4) (Ex_st (st2 := [.int r3]) rfl ?_)
    cases hF
    exact Ex_fin rfl
  · rw [if_neg hc] at hF
    refine Ex_go 6 (pc' := 34) (L' := [some (.ref 1000), some (.int x1), some (.int (-1 : Int32)), some (.long (0 : Int64)), none, some (.int (0 : Int32)), none, none]) (st' := []) (σ' := (S, (si M 1001 (0 : Int32)), O)) (rfl) ?_
    exact Ex_mono (L := [some (.ref 1000), some (.int x1), some (.int (-1 : Int32)), some (.long (0 : Int64)), none, some (.int (0 : Int32)), none, none]) (Le_s (Le_s (Le_s (Le_s (Le_n (Le_s (Le_n (Le_n (Le_0))))))))) (X_m_most_34 hd FU _ _ _ _ _ _ _ hF) (Nat.le_refl _) (by omega)
def F_Sh_pick_29 (S : Sto) : Option Int64 := some (-1 : Int64)
set_option maxRecDepth 100000 in
theorem X_Sh_pick_29 {nL : Nat} {xs : Nat → Int32} {M : Sto} {O : Sto} {d : Nat} (hd : 8 ≤ d) : ∀ (S : Sto) (r : Int64), F_Sh_pick_29 S = some r → EX nL xs 0 MI_159 d 29 [none, none, none, none, none, none, none, none] [] (S, M, O) (.inl (some (.long r))) (S, M, O) := by
  intro S r hF
  unfold F_Sh_pick_29 at hF
  refine Ex_go 1 (pc' := 32) (L' := [none, none, none, none, none, none, none, none]) (st' := [.long (-1 : Int64)]) (σ' := (S, M, O)) (rfl) ?_
  cases hF
  exact Ex_fin rfl
def F_Sh_pick (x1 : Int32) (x2 : Int64) (x4 : Int64) (x6 : Int64) (S : Sto) : Option Int64 := b1 (F_Sh_has x1 S) (fun r1 => if r1 = 0 then F_Sh_pick_29 S else if x6 < (0 : Int64) then F_Sh_pick_29 S else b1 (F_Sh_amount x1 x2 x4 S) (fun r3 => if x6 < r3 then b1 (F_Sh_firstFrom x1 x2 S) (fun r5 => ck (ib x1 256) (some (r5 + (x6 * (al S 22 (Int32.toNatClampNeg x1)))))) else F_Sh_pick_29 S))
set_option maxRecDepth 100000 in
theorem X_Sh_pick {nL : Nat} {xs : Nat → Int32} {M : Sto} {O : Sto} {d : Nat} (hd : 8 ≤ d) : ∀ (x1 : Int32) (x2 : Int64) (x4 : Int64) (x6 : Int64) (S : Sto) (r : Int64), F_Sh_pick x1 x2 x4 x6 S = some r → EX nL xs 0 MI_159 d 0 [some (.ref 21), some (.int x1), some (.long x2), none, some (.long x4), none, some (.long x6), none] [] (S, M, O) (.inl (some (.long r))) (S, M, O) := by
  intro x1 x2 x4 x6 S r hF
  unfold F_Sh_pick at hF
  refine Ex_go 2 (pc' := 2) (L' := [some (.ref 21), some (.int x1), some (.long x2), none, some (.long x4), none, some (.long x6), none]) (st' := [.int x1, .ref 21]) (σ' := (S, M, O)) (rfl) ?_
  obtain ⟨r1, hx2, hF⟩ := b1_i hF
  refine Ex_call (kind := 2) (y := 40) (as := [.ref 21, .int x1]) (rest := []) (L0 := [some (.ref 21), some (.int x1)]) (d' := 1) (v := some (.int r1)) (σ1 := (S, M, O)) rfl rfl mt_40 rfl rfl (by omega) (X_Sh_has (Nat.le_refl _) _ _ _ hx2) (Ex_st (st2 := [.int r1]) rfl ?_)
  refine Ex_go 1 (pc' := if r1 = 0 then 29 else 8) (L' := [some (.ref 21), some (.int x1), some (.long x2), none, some (.long x4), none, some (.long x6), none]) (st' := []) (σ' := (S, M, O)) (rfl) ?_
  refine Ex_br (fun hc => ?_) (fun hc => ?_)
  · rw [if_pos hc] at hF
    exact Ex_mono (L := [none, none, none, none, none, none, none, none]) (Le_n (Le_n (Le_n (Le_n (Le_n (Le_n (Le_n (Le_n (Le_0))))))))) (X_Sh_pick_29 hd _ _ hF) (Nat.le_refl _) (by omega)
  · rw [if_neg hc] at hF
    refine Ex_go 4 (pc' := if (lg_cmp x6 (0 : Int64)) < 0 then 29 else 15) (L' := [some (.ref 21), some (.int x1), some (.long x2), none, some (.long x4), none, some (.long x6), none]) (st' := []) (σ' := (S, M, O)) (rfl) ?_
    refine Ex_brI lc_lt (fun hc => ?_) (fun hc => ?_)
    · rw [if_pos hc] at hF
      exact Ex_mono (L := [none, none, none, none, none, none, none, none]) (Le_n (Le_n (Le_n (Le_n (Le_n (Le_n (Le_n (Le_n (Le_0))))))))) (X_Sh_pick_29 hd _ _ hF) (Nat.le_refl _) (by omega)
    · rw [if_neg hc] at hF
      refine Ex_go 5 (pc' := 22) (L' := [some (.ref 21), some (.int x1), some (.long x2), none, some (.long x4), none, some (.long x6), none]) (st' := [.long x4, .long x2, .int x1, .ref 21, .long x6]) (σ' := (S, M, O)) (rfl) ?_
      obtain ⟨r3, hx4, hF⟩ := b1_i hF
      refine Ex_call (kind := 2) (y := 131) (as := [.ref 21, .int x1, .long x2, .long x4]) (rest := [.long x6]) (L0 := [some (.ref 21), some (.int x1), some (.long x2), none, some (.long x4), none, none, none]) (d' := 7) (v := some (.long r3)) (σ1 := (S, M, O)) rfl rfl mt_131 rfl rfl (by omega) (X_Sh_amount (Nat.le_refl _) _ _ _ _ _ hx4) (Ex_st (st2 := [.long r3, .long x6]) rfl ?_)
      refine Ex_go 2 (pc' := if (lg_cmp x6 r3) < 0 then 33 else 29) (L' := [some (.ref 21), some (.int x1), some (.long x2), none, some (.long x4), none, some (.long x6), none]) (st' := []) (σ' := (S, M, O)) (rfl) ?_
      refine Ex_brI lc_lt (fun hc => ?_) (fun hc => ?_)
      · rw [if_pos hc] at hF
        refine Ex_go 3 (pc' := 36) (L' := [some (.ref 21), some (.int x1), some (.long x2), none, some (.long x4), none, some (.long x6), none]) (st' := [.long x2, .int x1, .ref 21]) (σ' := (S, M, O)) (rfl) ?_
        obtain ⟨r5, hx6, hF⟩ := b1_i hF
        refine Ex_call (kind := 2) (y := 130) (as := [.ref 21, .int x1, .long x2]) (rest := []) (L0 := [some (.ref 21), some (.int x1), some (.long x2), none, none, none, none, none, none, none]) (d' := 6) (v := some (.long r5)) (σ1 := (S, M, O)) rfl rfl mt_130 rfl rfl (by omega) (X_Sh_firstFrom (Nat.le_refl _) _ _ _ _ hx6) (Ex_st (st2 := [.long r5]) rfl ?_)
        refine Ex_go 4 (pc' := 46) (L' := [some (.ref 21), some (.int x1), some (.long x2), none, some (.long x4), none, some (.long x6), none]) (st' := [.int x1, .ref 22, .long x6, .long r5]) (σ' := (S, M, O)) (rfl) ?_
        obtain ⟨hc7, hF⟩ := ck_i hF
        refine Ex_chk (b := ib x1 256) (pc' := 47) (L' := [some (.ref 21), some (.int x1), some (.long x2), none, some (.long x4), none, some (.long x6), none]) (st' := [.long (al S 22 (Int32.toNatClampNeg x1)), .long x6, .long r5]) (σ' := (S, M, O)) rfl hc7 ?_
        refine Ex_go 2 (pc' := 49) (L' := [some (.ref 21), some (.int x1), some (.long x2), none, some (.long x4), none, some (.long x6), none]) (st' := [.long (r5 + (x6 * (al S 22 (Int32.toNatClampNeg x1))))]) (σ' := (S, M, O)) (rfl) ?_
        cases hF
        exact Ex_fin rfl
      · rw [if_neg hc] at hF
        exact Ex_mono (L := [none, none, none, none, none, none, none, none]) (Le_n (Le_n (Le_n (Le_n (Le_n (Le_n (Le_n (Le_n (Le_0))))))))) (X_Sh_pick_29 hd _ _ hF) (Nat.le_refl _) (by omega)
def F_w_place_17 (S : Sto) : Option (Int64 ⊕ Nat) := some (.inr 0)
set_option maxRecDepth 100000 in
theorem X_w_place_17 {nL : Nat} {xs : Nat → Int32} {M : Sto} {O : Sto} {d : Nat} (hd : 9 ≤ d) : ∀ (S : Sto) (r : Int64 ⊕ Nat), F_w_place_17 S = some r → EX nL xs 1 MI_163 d 17 [none, none, none, none] [] (S, M, O) (rsJ r) (S, M, O) := by
  intro S r hF
  unfold F_w_place_17 at hF
  cases hF
  exact Ex_thr rfl (by omega) (Nat.le_refl _)
def F_w_place (x1 : Int32) (x2 : Int64) (S : Sto) : Option (Int64 ⊕ Nat) := b1 (F_Sh_has x1 S) (fun r1 => if r1 = 0 then F_w_place_17 S else if (0 : Int64) ≤ x2 then b1 (F_Sh_pick x1 (gl S 26) (gl S 27) x2 S) (fun r3 => some (.inl r3)) else F_w_place_17 S)
set_option maxRecDepth 100000 in
theorem X_w_place {nL : Nat} {xs : Nat → Int32} {M : Sto} {O : Sto} {d : Nat} (hd : 9 ≤ d) : ∀ (x1 : Int32) (x2 : Int64) (S : Sto) (r : Int64 ⊕ Nat), F_w_place x1 x2 S = some r → EX nL xs 1 MI_163 d 0 [some (.ref 0), some (.int x1), some (.long x2), none] [] (S, M, O) (rsJ r) (S, M, O) := by
  intro x1 x2 S r hF
  unfold F_w_place at hF
  refine Ex_go 3 (pc' := 5) (L' := [some (.ref 0), some (.int x1), some (.long x2), none]) (st' := [.int x1, .ref 21]) (σ' := (S, M, O)) (rfl) ?_
  obtain ⟨r1, hx2, hF⟩ := b1_i hF
  refine Ex_callK (K1 := 0) (K2 := 1) (kind := 2) (y := 40) (as := [.ref 21, .int x1]) (rest := []) (L0 := [some (.ref 21), some (.int x1)]) (d' := 1) (v := some (.int r1)) (σ1 := (S, M, O)) rfl rfl mt_40 rfl rfl (by omega) (X_Sh_has (Nat.le_refl _) _ _ _ hx2) (Ex_st (st2 := [.int r1]) rfl ?_) (by omega)
  refine Ex_go 1 (pc' := if r1 = 0 then 17 else 11) (L' := [some (.ref 0), some (.int x1), some (.long x2), none]) (st' := []) (σ' := (S, M, O)) (rfl) ?_
  refine Ex_br (fun hc => ?_) (fun hc => ?_)
  · rw [if_pos hc] at hF
    exact Ex_mono (L := [none, none, none, none]) (Le_n (Le_n (Le_n (Le_n (Le_0))))) (X_w_place_17 hd _ _ hF) (Nat.le_refl _) (by omega)
  · rw [if_neg hc] at hF
    refine Ex_go 4 (pc' := if 0 ≤ (lg_cmp x2 (0 : Int64)) then 25 else 17) (L' := [some (.ref 0), some (.int x1), some (.long x2), none]) (st' := []) (σ' := (S, M, O)) (rfl) ?_
    refine Ex_brI lc_ge (fun hc => ?_) (fun hc => ?_)
    · rw [if_pos hc] at hF
      refine Ex_go 10 (pc' := 45) (L' := [some (.ref 0), some (.int x1), some (.long x2), none]) (st' := [.long x2, .long (gl S 27), .long (gl S 26), .int x1, .ref 21]) (σ' := (S, M, O)) (rfl) ?_
      obtain ⟨r3, hx4, hF⟩ := b1_i hF
      refine Ex_callK (K1 := 0) (K2 := 1) (kind := 2) (y := 159) (as := [.ref 21, .int x1, .long (gl S 26), .long (gl S 27), .long x2]) (rest := []) (L0 := [some (.ref 21), some (.int x1), some (.long (gl S 26)), none, some (.long (gl S 27)), none, some (.long x2), none]) (d' := 8) (v := some (.long r3)) (σ1 := (S, M, O)) rfl rfl mt_159 rfl rfl (by omega) (X_Sh_pick (Nat.le_refl _) _ _ _ _ _ _ hx4) (Ex_st (st2 := [.long r3]) rfl ?_) (by omega)
      cases hF
      exact Ex_fin rfl
    · rw [if_neg hc] at hF
      exact Ex_mono (L := [none, none, none, none]) (Le_n (Le_n (Le_n (Le_n (Le_0))))) (X_w_place_17 hd _ _ hF) (Nat.le_refl _) (by omega)
def F_l_place (x1 : Int32) (x2 : Int64) (S : Sto) (O : Sto) : Option (Int32 × Sto) := b1 (F_w_place x1 x2 S) (fun r1 => su r1 (fun v3 => some ((0 : Int32), (ul O 2000 (vp_updL (al O 2000) (Int32.toNatClampNeg (0 : Int32)) v3)))) (fun z4 => if z4 = 0 then some ((1 : Int32), O) else (none)))
set_option maxRecDepth 100000 in
theorem X_l_place {nL : Nat} {xs : Nat → Int32} {M : Sto} {d : Nat} (hd : 10 ≤ d) : ∀ (x1 : Int32) (x2 : Int64) (S : Sto) (O : Sto) (r : Int32) (O' : Sto), F_l_place x1 x2 S O = some (r, O') → EX nL xs 1 MI_164 d 0 [some (.ref 0), some (.int x1), some (.long x2), none, some (.ref 2000), none] [] (S, M, O) (.inl (some (.int r))) (S, M, O') := by
  intro x1 x2 S O r O' hF
  unfold F_l_place at hF
  refine Ex_go 5 (pc' := 6) (L' := [some (.ref 0), some (.int x1), some (.long x2), none, some (.ref 2000), none]) (st' := [.long x2, .int x1, .ref 0, .int (0 : Int32), .ref 2000]) (σ' := (S, M, O)) (rfl) ?_
  obtain ⟨r1, hx2, hF⟩ := b1_i hF
  cases r1 with
  | inl v3 =>
    rw [su_l] at hF
    refine Ex_callK (K1 := 1) (K2 := 0) (kind := 3) (y := 163) (as := [.ref 0, .int x1, .long x2]) (rest := [.int (0 : Int32), .ref 2000]) (L0 := [some (.ref 0), some (.int x1), some (.long x2), none]) (d' := 9) (v := some (.long v3)) (σ1 := (S, M, O)) rfl rfl mt_163 rfl rfl (by omega) (X_w_place (Nat.le_refl _) _ _ _ _ hx2) (Ex_st (st2 := [.long v3, .int (0 : Int32), .ref 2000]) rfl ?_) (by omega)
    refine Ex_chk (b := ib (0 : Int32) 1) (pc' := 10) (L' := [some (.ref 0), some (.int x1), some (.long x2), none, some (.ref 2000), none]) (st' := []) (σ' := (S, M, (ul O 2000 (vp_updL (al O 2000) (Int32.toNatClampNeg (0 : Int32)) v3)))) rfl (by decide) ?_
    refine Ex_go 2 (pc' := 18) (L' := [some (.ref 0), some (.int x1), some (.long x2), none, some (.ref 2000), none]) (st' := [.int (0 : Int32)]) (σ' := (S, M, (ul O 2000 (vp_updL (al O 2000) (Int32.toNatClampNeg (0 : Int32)) v3)))) (rfl) ?_
    cases hF
    exact Ex_fin rfl
  | inr z4 =>
    by_cases hz0 : z4 = 0
    · have hF : (if z4 = 0 then _ else _) = _ := hF
      rw [if_pos hz0] at hF
      subst hz0
      refine Ex_callX (K1 := 1) (K2 := 0) (y := 163) (as := [.ref 0, .int x1, .long x2]) (rest := [.int (0 : Int32), .ref 2000]) (L0 := [some (.ref 0), some (.int x1), some (.long x2), none]) (d' := 9) (σ1 := (S, M, O)) (x := 0) (pc' := 15) (i := 5) rfl rfl mt_163 rfl rfl (by omega) (X_w_place (Nat.le_refl _) _ _ _ _ hx2) rfl (Ex_L (L2 := [some (.ref 0), some (.int x1), some (.long x2), none, some (.ref 2000), none]) rfl ?_) (by omega)
      refine Ex_go 1 (pc' := 16) (L' := [some (.ref 0), some (.int x1), some (.long x2), none, some (.ref 2000), none]) (st' := [.int (1 : Int32)]) (σ' := (S, M, O)) (rfl) ?_
      cases hF
      exact Ex_fin rfl
    have hF : (if z4 = 0 then _ else _) = _ := hF
    rw [if_neg hz0] at hF
    cases hF
def F_m_isSet (x1 : Int32) (M : Sto) : Option Int32 := b1 (F_m_isIn (Int32.toInt64 x1) (0 : Int64) (Int32.toInt64 (((1 : Int32) <<< ((ai M 1003 (Int32.toNatClampNeg (0 : Int32))) &&& 31)) - (1 : Int32)))) (fun r1 => ck (b01 r1) (some r1))
set_option maxRecDepth 100000 in
theorem X_m_isSet {nL : Nat} {xs : Nat → Int32} {S : Sto} {O : Sto} {d : Nat} (hd : 2 ≤ d) : ∀ (x1 : Int32) (M : Sto) (r : Int32), F_m_isSet x1 M = some r → EX nL xs 0 MI_134 d 0 [some (.ref 1000), some (.int x1)] [] (S, M, O) (.inl (some (.int r))) (S, M, O) := by
  intro x1 M r hF
  unfold F_m_isSet at hF
  refine Ex_go 7 (pc' := 9) (L' := [some (.ref 1000), some (.int x1)]) (st' := [.int (0 : Int32), .ref 1003, .int (1 : Int32), .long (0 : Int64), .long (Int32.toInt64 x1)]) (σ' := (S, M, O)) (rfl) ?_
  refine Ex_chk (b := ib (0 : Int32) 6) (pc' := 10) (L' := [some (.ref 1000), some (.int x1)]) (st' := [.int (ai M 1003 (Int32.toNatClampNeg (0 : Int32))), .int (1 : Int32), .long (0 : Int64), .long (Int32.toInt64 x1)]) (σ' := (S, M, O)) rfl (by decide) ?_
  refine Ex_go 4 (pc' := 14) (L' := [some (.ref 1000), some (.int x1)]) (st' := [.long (Int32.toInt64 (((1 : Int32) <<< ((ai M 1003 (Int32.toNatClampNeg (0 : Int32))) &&& 31)) - (1 : Int32))), .long (0 : Int64), .long (Int32.toInt64 x1)]) (σ' := (S, M, O)) (rfl) ?_
  obtain ⟨r1, hx2, hF⟩ := b1_i hF
  refine Ex_call (kind := 0) (y := 91) (as := [.long (Int32.toInt64 x1), .long (0 : Int64), .long (Int32.toInt64 (((1 : Int32) <<< ((ai M 1003 (Int32.toNatClampNeg (0 : Int32))) &&& 31)) - (1 : Int32)))]) (rest := []) (L0 := [some (.long (Int32.toInt64 x1)), none, some (.long (0 : Int64)), none, some (.long (Int32.toInt64 (((1 : Int32) <<< ((ai M 1003 (Int32.toNatClampNeg (0 : Int32))) &&& 31)) - (1 : Int32)))), none]) (d' := 1) (v := some (.int r1)) (σ1 := (S, M, O)) rfl rfl mt_91 rfl rfl (by omega) (X_m_isIn (Nat.le_refl _) _ _ _ _ hx2) (Ex_st (st2 := [.int r1]) rfl ?_)
  obtain ⟨hc3, hF⟩ := ck_i hF
  cases hF
  exact Ex_finZ (by exact rfl) hc3
def F_m_place_19 (M : Sto) : Option (Int64 × Sto) := b2 (F_m_fail (1 : Int32) M) (fun r1 M3 => some ((Int32.toInt64 r1), M3))
set_option maxRecDepth 100000 in
theorem X_m_place_19 {nL : Nat} {xs : Nat → Int32} {S : Sto} {O : Sto} {d : Nat} (hd : 8 ≤ d) : ∀ (M : Sto) (r : Int64) (M' : Sto), F_m_place_19 M = some (r, M') → EX nL xs 0 MI_165 d 19 [some (.ref 1000), none, none, none] [] (S, M, O) (.inl (some (.long r))) (S, M', O) := by
  intro M r M' hF
  unfold F_m_place_19 at hF
  refine Ex_go 2 (pc' := 21) (L' := [some (.ref 1000), none, none, none]) (st' := [.int (1 : Int32), .ref 1000]) (σ' := (S, M, O)) (rfl) ?_
  obtain ⟨r1, M3, hx2, hF⟩ := b2_i hF
  refine Ex_call (kind := 2) (y := 50) (as := [.ref 1000, .int (1 : Int32)]) (rest := []) (L0 := [some (.ref 1000), some (.int (1 : Int32))]) (d' := 1) (v := some (.int r1)) (σ1 := (S, M3, O)) rfl rfl mt_50 rfl rfl (by omega) (X_m_fail (Nat.le_refl _) _ _ _ _ hx2) (Ex_st (st2 := [.int r1]) rfl ?_)
  refine Ex_go 1 (pc' := 25) (L' := [some (.ref 1000), none, none, none]) (st' := [.long (Int32.toInt64 r1)]) (σ' := (S, M3, O)) (rfl) ?_
  cases hF
  exact Ex_fin rfl
def F_m_place (x1 : Int32) (x2 : Int64) (M : Sto) : Option (Int64 × Sto) := b1 (F_m_isSet x1 (si M 1001 (0 : Int32))) (fun r1 => if r1 = 0 then F_m_place_19 (si M 1001 (0 : Int32)) else if (0 : Int64) ≤ x2 then b2 (F_m_tellOne x1 (si M 1001 (0 : Int32))) (fun r3 M5 => b1 (F_m_manyNow M5) (fun r6 => if r6 ≤ x2 then some ((-1 : Int64), M5) else b1 (F_m_leastFrom (gl M5 1024) M5) (fun r8 => some ((r8 + (x2 * (gl M5 1022))), M5)))) else F_m_place_19 (si M 1001 (0 : Int32)))
set_option maxRecDepth 100000 in
theorem X_m_place {nL : Nat} {xs : Nat → Int32} {S : Sto} {O : Sto} {d : Nat} (hd : 8 ≤ d) : ∀ (x1 : Int32) (x2 : Int64) (M : Sto) (r : Int64) (M' : Sto), F_m_place x1 x2 M = some (r, M') → EX nL xs 0 MI_165 d 0 [some (.ref 1000), some (.int x1), some (.long x2), none] [] (S, M, O) (.inl (some (.long r))) (S, M', O) := by
  intro x1 x2 M r M' hF
  unfold F_m_place at hF
  refine Ex_go 5 (pc' := 7) (L' := [some (.ref 1000), some (.int x1), some (.long x2), none]) (st' := [.int x1, .ref 1000]) (σ' := (S, (si M 1001 (0 : Int32)), O)) (rfl) ?_
  obtain ⟨r1, hx2, hF⟩ := b1_i hF
  refine Ex_call (kind := 2) (y := 134) (as := [.ref 1000, .int x1]) (rest := []) (L0 := [some (.ref 1000), some (.int x1)]) (d' := 2) (v := some (.int r1)) (σ1 := (S, (si M 1001 (0 : Int32)), O)) rfl rfl mt_134 rfl rfl (by omega) (X_m_isSet (Nat.le_refl _) _ _ _ hx2) (Ex_st (st2 := [.int r1]) rfl ?_)
  refine Ex_go 1 (pc' := if r1 = 0 then 19 else 13) (L' := [some (.ref 1000), some (.int x1), some (.long x2), none]) (st' := []) (σ' := (S, (si M 1001 (0 : Int32)), O)) (rfl) ?_
  refine Ex_br (fun hc => ?_) (fun hc => ?_)
  · rw [if_pos hc] at hF
    exact Ex_mono (L := [some (.ref 1000), none, none, none]) (Le_s (Le_n (Le_n (Le_n (Le_0))))) (X_m_place_19 hd _ _ _ hF) (Nat.le_refl _) (by omega)
  · rw [if_neg hc] at hF
    refine Ex_go 4 (pc' := if 0 ≤ (lg_cmp x2 (0 : Int64)) then 26 else 19) (L' := [some (.ref 1000), some (.int x1), some (.long x2), none]) (st' := []) (σ' := (S, (si M 1001 (0 : Int32)), O)) (rfl) ?_
    refine Ex_brI lc_ge (fun hc => ?_) (fun hc => ?_)
    · rw [if_pos hc] at hF
      refine Ex_go 2 (pc' := 28) (L' := [some (.ref 1000), some (.int x1), some (.long x2), none]) (st' := [.int x1, .ref 1000]) (σ' := (S, (si M 1001 (0 : Int32)), O)) (rfl) ?_
      obtain ⟨r3, M5, hx4, hF⟩ := b2_i hF
      refine Ex_call (kind := 2) (y := 138) (as := [.ref 1000, .int x1]) (rest := []) (L0 := [some (.ref 1000), some (.int x1), none]) (d' := 7) (v := none) (σ1 := (S, M5, O)) rfl rfl mt_138 rfl rfl (by omega) (X_m_tellOne (Nat.le_refl _) _ _ _ _ hx4) (Ex_st (st2 := []) rfl ?_)
      refine Ex_go 2 (pc' := 33) (L' := [some (.ref 1000), some (.int x1), some (.long x2), none]) (st' := [.ref 1000, .long x2]) (σ' := (S, M5, O)) (rfl) ?_
      obtain ⟨r6, hx7, hF⟩ := b1_i hF
      refine Ex_call (kind := 2) (y := 140) (as := [.ref 1000]) (rest := [.long x2]) (L0 := [some (.ref 1000), none, none]) (d' := 7) (v := some (.long r6)) (σ1 := (S, M5, O)) rfl rfl mt_140 rfl rfl (by omega) (X_m_manyNow (Nat.le_refl _) _ _ hx7) (Ex_st (st2 := [.long r6, .long x2]) rfl ?_)
      refine Ex_go 2 (pc' := if 0 ≤ (lg_cmp x2 r6) then 58 else 40) (L' := [some (.ref 1000), some (.int x1), some (.long x2), none]) (st' := []) (σ' := (S, M5, O)) (rfl) ?_
      refine Ex_brI lc_ge (fun hc => ?_) (fun hc => ?_)
      · rw [if_pos hc] at hF
        refine Ex_go 1 (pc' := 61) (L' := [some (.ref 1000), some (.int x1), some (.long x2), none]) (st' := [.long (-1 : Int64)]) (σ' := (S, M5, O)) (rfl) ?_
        cases hF
        exact Ex_fin rfl
      · rw [if_neg hc] at hF
        refine Ex_go 3 (pc' := 45) (L' := [some (.ref 1000), some (.int x1), some (.long x2), none]) (st' := [.long (gl M5 1024), .ref 1000]) (σ' := (S, M5, O)) (rfl) ?_
        obtain ⟨r8, hx9, hF⟩ := b1_i hF
        refine Ex_call (kind := 2) (y := 139) (as := [.ref 1000, .long (gl M5 1024)]) (rest := []) (L0 := [some (.ref 1000), some (.long (gl M5 1024)), none, none, none, none, none, none, none]) (d' := 6) (v := some (.long r8)) (σ1 := (S, M5, O)) rfl rfl mt_139 rfl rfl (by omega) (X_m_leastFrom (Nat.le_refl _) _ _ _ hx9) (Ex_st (st2 := [.long r8]) rfl ?_)
        refine Ex_go 6 (pc' := 61) (L' := [some (.ref 1000), some (.int x1), some (.long x2), none]) (st' := [.long (r8 + (x2 * (gl M5 1022)))]) (σ' := (S, M5, O)) (rfl) ?_
        cases hF
        exact Ex_fin rfl
    · rw [if_neg hc] at hF
      exact Ex_mono (L := [some (.ref 1000), none, none, none]) (Le_s (Le_n (Le_n (Le_n (Le_0))))) (X_m_place_19 hd _ _ _ hF) (Nat.le_refl _) (by omega)
def F_w_next (x1 : Int32) (x2 : Int64) (S : Sto) : Option (Int64 ⊕ Nat) := b1 (F_Sh_has x1 S) (fun r1 => if r1 = 0 then some (.inr 0) else if x2 ≤ (gl S 27) then b1 (F_Sh_pick x1 (mxL x2 (gl S 26)) (gl S 27) (0 : Int64) S) (fun r3 => some (.inl r3)) else some (.inl (-1 : Int64)))
set_option maxRecDepth 100000 in
theorem X_w_next {nL : Nat} {xs : Nat → Int32} {M : Sto} {O : Sto} {d : Nat} (hd : 9 ≤ d) : ∀ (x1 : Int32) (x2 : Int64) (S : Sto) (r : Int64 ⊕ Nat), F_w_next x1 x2 S = some r → EX nL xs 1 MI_160 d 0 [some (.ref 0), some (.int x1), some (.long x2), none] [] (S, M, O) (rsJ r) (S, M, O) := by
  intro x1 x2 S r hF
  unfold F_w_next at hF
  refine Ex_go 3 (pc' := 5) (L' := [some (.ref 0), some (.int x1), some (.long x2), none]) (st' := [.int x1, .ref 21]) (σ' := (S, M, O)) (rfl) ?_
  obtain ⟨r1, hx2, hF⟩ := b1_i hF
  refine Ex_callK (K1 := 0) (K2 := 1) (kind := 2) (y := 40) (as := [.ref 21, .int x1]) (rest := []) (L0 := [some (.ref 21), some (.int x1)]) (d' := 1) (v := some (.int r1)) (σ1 := (S, M, O)) rfl rfl mt_40 rfl rfl (by omega) (X_Sh_has (Nat.le_refl _) _ _ _ hx2) (Ex_st (st2 := [.int r1]) rfl ?_) (by omega)
  refine Ex_go 1 (pc' := if ¬ r1 = 0 then 19 else 11) (L' := [some (.ref 0), some (.int x1), some (.long x2), none]) (st' := []) (σ' := (S, M, O)) (rfl) ?_
  refine Ex_brN (fun hc => ?_) (fun hc => ?_)
  · rw [if_pos hc] at hF
    cases hF
    exact Ex_thr rfl (by omega) (Nat.le_refl _)
  · rw [if_neg hc] at hF
    refine Ex_go 6 (pc' := if (lg_cmp x2 (gl S 27)) ≤ 0 then 35 else 31) (L' := [some (.ref 0), some (.int x1), some (.long x2), none]) (st' := []) (σ' := (S, M, O)) (rfl) ?_
    refine Ex_brI lc_le (fun hc => ?_) (fun hc => ?_)
    · rw [if_pos hc] at hF
      refine Ex_go 7 (pc' := 48) (L' := [some (.ref 0), some (.int x1), some (.long x2), none]) (st' := [.long (gl S 26), .long x2, .int x1, .ref 21]) (σ' := (S, M, O)) (rfl) ?_
      refine Ex_blt (kind := 11) (y := 0) (as := [.long x2, .long (gl S 26)]) (rest := [.int x1, .ref 21]) (v := .long (mxL x2 (gl S 26))) rfl rfl (by omega) ?_
      refine Ex_go 4 (pc' := 59) (L' := [some (.ref 0), some (.int x1), some (.long x2), none]) (st' := [.long (0 : Int64), .long (gl S 27), .long (mxL x2 (gl S 26)), .int x1, .ref 21]) (σ' := (S, M, O)) (rfl) ?_
      obtain ⟨r3, hx4, hF⟩ := b1_i hF
      refine Ex_callK (K1 := 0) (K2 := 1) (kind := 2) (y := 159) (as := [.ref 21, .int x1, .long (mxL x2 (gl S 26)), .long (gl S 27), .long (0 : Int64)]) (rest := []) (L0 := [some (.ref 21), some (.int x1), some (.long (mxL x2 (gl S 26))), none, some (.long (gl S 27)), none, some (.long (0 : Int64)), none]) (d' := 8) (v := some (.long r3)) (σ1 := (S, M, O)) rfl rfl mt_159 rfl rfl (by omega) (X_Sh_pick (Nat.le_refl _) _ _ _ _ _ _ hx4) (Ex_st (st2 := [.long r3]) rfl ?_) (by omega)
      cases hF
      exact Ex_fin rfl
    · rw [if_neg hc] at hF
      refine Ex_go 1 (pc' := 34) (L' := [some (.ref 0), some (.int x1), some (.long x2), none]) (st' := [.long (-1 : Int64)]) (σ' := (S, M, O)) (rfl) ?_
      cases hF
      exact Ex_fin rfl
def F_l_next (x1 : Int32) (x2 : Int64) (S : Sto) (O : Sto) : Option (Int32 × Sto) := b1 (F_w_next x1 x2 S) (fun r1 => su r1 (fun v3 => some ((0 : Int32), (ul O 2000 (vp_updL (al O 2000) (Int32.toNatClampNeg (0 : Int32)) v3)))) (fun z4 => if z4 = 0 then some ((1 : Int32), O) else (none)))
set_option maxRecDepth 100000 in
theorem X_l_next {nL : Nat} {xs : Nat → Int32} {M : Sto} {d : Nat} (hd : 10 ≤ d) : ∀ (x1 : Int32) (x2 : Int64) (S : Sto) (O : Sto) (r : Int32) (O' : Sto), F_l_next x1 x2 S O = some (r, O') → EX nL xs 1 MI_161 d 0 [some (.ref 0), some (.int x1), some (.long x2), none, some (.ref 2000), none] [] (S, M, O) (.inl (some (.int r))) (S, M, O') := by
  intro x1 x2 S O r O' hF
  unfold F_l_next at hF
  refine Ex_go 5 (pc' := 6) (L' := [some (.ref 0), some (.int x1), some (.long x2), none, some (.ref 2000), none]) (st' := [.long x2, .int x1, .ref 0, .int (0 : Int32), .ref 2000]) (σ' := (S, M, O)) (rfl) ?_
  obtain ⟨r1, hx2, hF⟩ := b1_i hF
  cases r1 with
  | inl v3 =>
    rw [su_l] at hF
    refine Ex_callK (K1 := 1) (K2 := 0) (kind := 3) (y := 160) (as := [.ref 0, .int x1, .long x2]) (rest := [.int (0 : Int32), .ref 2000]) (L0 := [some (.ref 0), some (.int x1), some (.long x2), none]) (d' := 9) (v := some (.long v3)) (σ1 := (S, M, O)) rfl rfl mt_160 rfl rfl (by omega) (X_w_next (Nat.le_refl _) _ _ _ _ hx2) (Ex_st (st2 := [.long v3, .int (0 : Int32), .ref 2000]) rfl ?_) (by omega)
    refine Ex_chk (b := ib (0 : Int32) 1) (pc' := 10) (L' := [some (.ref 0), some (.int x1), some (.long x2), none, some (.ref 2000), none]) (st' := []) (σ' := (S, M, (ul O 2000 (vp_updL (al O 2000) (Int32.toNatClampNeg (0 : Int32)) v3)))) rfl (by decide) ?_
    refine Ex_go 2 (pc' := 18) (L' := [some (.ref 0), some (.int x1), some (.long x2), none, some (.ref 2000), none]) (st' := [.int (0 : Int32)]) (σ' := (S, M, (ul O 2000 (vp_updL (al O 2000) (Int32.toNatClampNeg (0 : Int32)) v3)))) (rfl) ?_
    cases hF
    exact Ex_fin rfl
  | inr z4 =>
    by_cases hz0 : z4 = 0
    · have hF : (if z4 = 0 then _ else _) = _ := hF
      rw [if_pos hz0] at hF
      subst hz0
      refine Ex_callX (K1 := 1) (K2 := 0) (y := 160) (as := [.ref 0, .int x1, .long x2]) (rest := [.int (0 : Int32), .ref 2000]) (L0 := [some (.ref 0), some (.int x1), some (.long x2), none]) (d' := 9) (σ1 := (S, M, O)) (x := 0) (pc' := 15) (i := 5) rfl rfl mt_160 rfl rfl (by omega) (X_w_next (Nat.le_refl _) _ _ _ _ hx2) rfl (Ex_L (L2 := [some (.ref 0), some (.int x1), some (.long x2), none, some (.ref 2000), none]) rfl ?_) (by omega)
      refine Ex_go 1 (pc' := 16) (L' := [some (.ref 0), some (.int x1), some (.long x2), none, some (.ref 2000), none]) (st' := [.int (1 : Int32)]) (σ' := (S, M, O)) (rfl) ?_
      cases hF
      exact Ex_fin rfl
    have hF : (if z4 = 0 then _ else _) = _ := hF
    rw [if_neg hz0] at hF
    cases hF
def F_m_next (x1 : Int32) (x2 : Int64) (M : Sto) : Option (Int64 × Sto) := b1 (F_m_isSet x1 (si M 1001 (0 : Int32))) (fun r1 => if r1 = 0 then b2 (F_m_fail (1 : Int32) (si M 1001 (0 : Int32))) (fun r8 M10 => some ((Int32.toInt64 r8), M10)) else b2 (F_m_tellOne x1 (si M 1001 (0 : Int32))) (fun r3 M5 => b1 (F_m_leastFrom x2 M5) (fun r6 => some (r6, M5))))
set_option maxRecDepth 100000 in
theorem X_m_next {nL : Nat} {xs : Nat → Int32} {S : Sto} {O : Sto} {d : Nat} (hd : 8 ≤ d) : ∀ (x1 : Int32) (x2 : Int64) (M : Sto) (r : Int64) (M' : Sto), F_m_next x1 x2 M = some (r, M') → EX nL xs 0 MI_162 d 0 [some (.ref 1000), some (.int x1), some (.long x2), none] [] (S, M, O) (.inl (some (.long r))) (S, M', O) := by
  intro x1 x2 M r M' hF
  unfold F_m_next at hF
  refine Ex_go 5 (pc' := 7) (L' := [some (.ref 1000), some (.int x1), some (.long x2), none]) (st' := [.int x1, .ref 1000]) (σ' := (S, (si M 1001 (0 : Int32)), O)) (rfl) ?_
  obtain ⟨r1, hx2, hF⟩ := b1_i hF
  refine Ex_call (kind := 2) (y := 134) (as := [.ref 1000, .int x1]) (rest := []) (L0 := [some (.ref 1000), some (.int x1)]) (d' := 2) (v := some (.int r1)) (σ1 := (S, (si M 1001 (0 : Int32)), O)) rfl rfl mt_134 rfl rfl (by omega) (X_m_isSet (Nat.le_refl _) _ _ _ hx2) (Ex_st (st2 := [.int r1]) rfl ?_)
  refine Ex_go 1 (pc' := if ¬ r1 = 0 then 20 else 13) (L' := [some (.ref 1000), some (.int x1), some (.long x2), none]) (st' := []) (σ' := (S, (si M 1001 (0 : Int32)), O)) (rfl) ?_
  refine Ex_brN (fun hc => ?_) (fun hc => ?_)
  · rw [if_pos hc] at hF
    refine Ex_go 2 (pc' := 15) (L' := [some (.ref 1000), some (.int x1), some (.long x2), none]) (st' := [.int (1 : Int32), .ref 1000]) (σ' := (S, (si M 1001 (0 : Int32)), O)) (rfl) ?_
    obtain ⟨r8, M10, hx9, hF⟩ := b2_i hF
    refine Ex_call (kind := 2) (y := 50) (as := [.ref 1000, .int (1 : Int32)]) (rest := []) (L0 := [some (.ref 1000), some (.int (1 : Int32))]) (d' := 1) (v := some (.int r8)) (σ1 := (S, M10, O)) rfl rfl mt_50 rfl rfl (by omega) (X_m_fail (Nat.le_refl _) _ _ _ _ hx9) (Ex_st (st2 := [.int r8]) rfl ?_)
    refine Ex_go 1 (pc' := 19) (L' := [some (.ref 1000), some (.int x1), some (.long x2), none]) (st' := [.long (Int32.toInt64 r8)]) (σ' := (S, M10, O)) (rfl) ?_
    cases hF
    exact Ex_fin rfl
  · rw [if_neg hc] at hF
    refine Ex_go 2 (pc' := 22) (L' := [some (.ref 1000), some (.int x1), some (.long x2), none]) (st' := [.int x1, .ref 1000]) (σ' := (S, (si M 1001 (0 : Int32)), O)) (rfl) ?_
    obtain ⟨r3, M5, hx4, hF⟩ := b2_i hF
    refine Ex_call (kind := 2) (y := 138) (as := [.ref 1000, .int x1]) (rest := []) (L0 := [some (.ref 1000), some (.int x1), none]) (d' := 7) (v := none) (σ1 := (S, M5, O)) rfl rfl mt_138 rfl rfl (by omega) (X_m_tellOne (Nat.le_refl _) _ _ _ _ hx4) (Ex_st (st2 := []) rfl ?_)
    refine Ex_go 2 (pc' := 27) (L' := [some (.ref 1000), some (.int x1), some (.long x2), none]) (st' := [.long x2, .ref 1000]) (σ' := (S, M5, O)) (rfl) ?_
    obtain ⟨r6, hx7, hF⟩ := b1_i hF
    refine Ex_call (kind := 2) (y := 139) (as := [.ref 1000, .long x2]) (rest := []) (L0 := [some (.ref 1000), some (.long x2), none, none, none, none, none, none, none]) (d' := 6) (v := some (.long r6)) (σ1 := (S, M5, O)) rfl rfl mt_139 rfl rfl (by omega) (X_m_leastFrom (Nat.le_refl _) _ _ _ hx7) (Ex_st (st2 := [.long r6]) rfl ?_)
    cases hF
    exact Ex_fin rfl
def F_w_haul (S : Sto) : Option (Int64 × Sto) := b2 (F_Sh_measure (gl S 26) (gl S 27) S) (fun r1 S3 => b1 (F_Sh_bySome (gi S3 28) S3) (fun r4 => some (r4, S3)))
set_option maxRecDepth 100000 in
theorem X_w_haul {nL : Nat} {xs : Nat → Int32} {M : Sto} {O : Sto} {d : Nat} (hd : 9 ≤ d) : ∀ (S : Sto) (r : Int64) (S' : Sto), F_w_haul S = some (r, S') → EX nL xs 0 MI_157 d 0 [some (.ref 0)] [] (S, M, O) (.inl (some (.long r))) (S', M, O) := by
  intro S r S' hF
  unfold F_w_haul at hF
  refine Ex_go 8 (pc' := 18) (L' := [some (.ref 0)]) (st' := [.long (gl S 27), .long (gl S 26), .ref 21]) (σ' := (S, M, O)) (rfl) ?_
  obtain ⟨r1, S3, hx2, hF⟩ := b2_i hF
  refine Ex_call (kind := 2) (y := 143) (as := [.ref 21, .long (gl S 26), .long (gl S 27)]) (rest := []) (L0 := [some (.ref 21), some (.long (gl S 26)), none, some (.long (gl S 27)), none, none]) (d' := 8) (v := none) (σ1 := (S3, M, O)) rfl rfl mt_143 rfl rfl (by omega) (X_Sh_measure (Nat.le_refl _) _ _ _ _ _ hx2) (Ex_st (st2 := []) rfl ?_)
  refine Ex_go 5 (pc' := 32) (L' := [some (.ref 0)]) (st' := [.int (gi S3 28), .ref 21]) (σ' := (S3, M, O)) (rfl) ?_
  obtain ⟨r4, hx5, hF⟩ := b1_i hF
  refine Ex_call (kind := 2) (y := 145) (as := [.ref 21, .int (gi S3 28)]) (rest := []) (L0 := [some (.ref 21), some (.int (gi S3 28)), none, none, none]) (d' := 2) (v := some (.long r4)) (σ1 := (S3, M, O)) rfl rfl mt_145 rfl rfl (by omega) (X_Sh_bySome (Nat.le_refl _) _ _ _ hx5) (Ex_st (st2 := [.long r4]) rfl ?_)
  cases hF
  exact Ex_fin rfl
def F_m_haul (M : Sto) : Option (Int64 × Sto) := b2 (F_m_someOf (gi (si M 1001 (0 : Int32)) 1016) (si M 1001 (0 : Int32))) (fun r1 M3 => some (r1, M3))
set_option maxRecDepth 100000 in
theorem X_m_haul {nL : Nat} {xs : Nat → Int32} {S : Sto} {O : Sto} {d : Nat} (hd : 11 ≤ d) : ∀ (M : Sto) (r : Int64) (M' : Sto), F_m_haul M = some (r, M') → EX nL xs 0 MI_158 d 0 [some (.ref 1000)] [] (S, M, O) (.inl (some (.long r))) (S, M', O) := by
  intro M r M' hF
  unfold F_m_haul at hF
  refine Ex_go 6 (pc' := 10) (L' := [some (.ref 1000)]) (st' := [.int (gi (si M 1001 (0 : Int32)) 1016), .ref 1000]) (σ' := (S, (si M 1001 (0 : Int32)), O)) (rfl) ?_
  obtain ⟨r1, M3, hx2, hF⟩ := b2_i hF
  refine Ex_call (kind := 2) (y := 150) (as := [.ref 1000, .int (gi (si M 1001 (0 : Int32)) 1016)]) (rest := []) (L0 := [some (.ref 1000), some (.int (gi (si M 1001 (0 : Int32)) 1016))]) (d' := 10) (v := some (.long r1)) (σ1 := (S, M3, O)) rfl rfl mt_150 rfl rfl (by omega) (X_m_someOf (Nat.le_refl _) _ _ _ _ hx2) (Ex_st (st2 := [.long r1]) rfl ?_)
  cases hF
  exact Ex_fin rfl
def F_Sh_choices_5 : Nat → Int32 → Int32 → Int64 → Int32 → Option Int64
  | 0, _, _, _, _ => none
  | n + 1, x0, x1, x2, x4 => if x1 < x4 then some x2 else ck (nzL (Int32.toInt64 x4)) (F_Sh_choices_5 n x0 x1 ((x2 * (Int32.toInt64 ((x0 - x1) + x4))) / (Int32.toInt64 x4)) (x4 + (1 : Int32)))
set_option maxRecDepth 100000 in
theorem X_Sh_choices_5 {nL : Nat} {xs : Nat → Int32} {S : Sto} {M : Sto} {O : Sto} {d : Nat} (hd : 1 ≤ d) : ∀ n : Nat, ∀ (x0 : Int32) (x1 : Int32) (x2 : Int64) (x4 : Int32) (r : Int64), F_Sh_choices_5 n x0 x1 x2 x4 = some r → EX nL xs 0 MI_152 d 5 [some (.int x0), some (.int x1), some (.long x2), none, some (.int x4)] [] (S, M, O) (.inl (some (.long r))) (S, M, O) := by
  intro n
  induction n with
  | zero => intro x0 x1 x2 x4 r hF; cases hF
  | succ n ih =>
  intro x0 x1 x2 x4 r hF
  unfold F_Sh_choices_5 at hF
  refine Ex_go 3 (pc' := if x1 < x4 then 31 else 11) (L' := [some (.int x0), some (.int x1), some (.long x2), none, some (.int x4)]) (st' := []) (σ' := (S, M, O)) (rfl) ?_
  refine Ex_br (fun hc => ?_) (fun hc => ?_)
  · rw [if_pos hc] at hF
    refine Ex_go 1 (pc' := 32) (L' := [some (.int x0), some (.int x1), some (.long x2), none, some (.int x4)]) (st' := [.long x2]) (σ' := (S, M, O)) (rfl) ?_
    cases hF
    exact Ex_fin rfl
  · rw [if_neg hc] at hF
    refine Ex_go 10 (pc' := 23) (L' := [some (.int x0), some (.int x1), some (.long x2), none, some (.int x4)]) (st' := [.long (Int32.toInt64 x4), .long (x2 * (Int32.toInt64 ((x0 - x1) + x4)))]) (σ' := (S, M, O)) (rfl) ?_
    obtain ⟨hc1, hF⟩ := ck_i hF
    refine Ex_chk (b := nzL (Int32.toInt64 x4)) (pc' := 24) (L' := [some (.int x0), some (.int x1), some (.long x2), none, some (.int x4)]) (st' := [.long ((x2 * (Int32.toInt64 ((x0 - x1) + x4))) / (Int32.toInt64 x4))]) (σ' := (S, M, O)) rfl hc1 ?_
    refine Ex_go 3 (pc' := 5) (L' := [some (.int x0), some (.int x1), some (.long ((x2 * (Int32.toInt64 ((x0 - x1) + x4))) / (Int32.toInt64 x4))), none, some (.int (x4 + (1 : Int32)))]) (st' := []) (σ' := (S, M, O)) (rfl) ?_
    exact Ex_mono (L := [some (.int x0), some (.int x1), some (.long ((x2 * (Int32.toInt64 ((x0 - x1) + x4))) / (Int32.toInt64 x4))), none, some (.int (x4 + (1 : Int32)))]) (Le_s (Le_s (Le_s (Le_n (Le_s (Le_0)))))) (ih _ _ _ _ _ hF) (Nat.le_refl _) (by omega)
def F_Sh_choices (x0 : Int32) (x1 : Int32) : Option Int64 := F_Sh_choices_5 FU x0 x1 (1 : Int64) (1 : Int32)
set_option maxRecDepth 100000 in
theorem X_Sh_choices {nL : Nat} {xs : Nat → Int32} {S : Sto} {M : Sto} {O : Sto} {d : Nat} (hd : 1 ≤ d) : ∀ (x0 : Int32) (x1 : Int32) (r : Int64), F_Sh_choices x0 x1 = some r → EX nL xs 0 MI_152 d 0 [some (.int x0), some (.int x1), none, none, none] [] (S, M, O) (.inl (some (.long r))) (S, M, O) := by
  intro x0 x1 r hF
  unfold F_Sh_choices at hF
  refine Ex_go 4 (pc' := 5) (L' := [some (.int x0), some (.int x1), some (.long (1 : Int64)), none, some (.int (1 : Int32))]) (st' := []) (σ' := (S, M, O)) (rfl) ?_
  exact Ex_mono (L := [some (.int x0), some (.int x1), some (.long (1 : Int64)), none, some (.int (1 : Int32))]) (Le_s (Le_s (Le_s (Le_n (Le_s (Le_0)))))) (X_Sh_choices_5 hd FU _ _ _ _ _ hF) (Nat.le_refl _) (by omega)
def F_Sh_byJust_77 (k5 : Int32 → Int32 → Int64 → Int32 → Sto → Option Int64) (x1 : Int32) (x2 : Int32) (x3 : Int64) (x5 : Int32) (S : Sto) : Option Int64 := k5 x1 x2 x3 (x5 + (1 : Int32)) S
set_option maxRecDepth 100000 in
theorem X_Sh_byJust_77 {nL : Nat} {xs : Nat → Int32} {M : Sto} {O : Sto} {d : Nat} (hd : 2 ≤ d) {k5 : Int32 → Int32 → Int64 → Int32 → Sto → Option Int64} (hk5 : ∀ (x1 : Int32) (x2 : Int32) (x3 : Int64) (x5 : Int32) (S : Sto) (r : Int64), k5 x1 x2 x3 x5 S = some r → EX nL xs 0 MI_153 d 5 [some (.ref 21), some (.int x1), some (.int x2), some (.long x3), none, some (.int x5), none, none, none] [] (S, M, O) (.inl (some (.long r))) (S, M, O)) : ∀ (x1 : Int32) (x2 : Int32) (x3 : Int64) (x5 : Int32) (S : Sto) (r : Int64), F_Sh_byJust_77 k5 x1 x2 x3 x5 S = some r → EX nL xs 0 MI_153 d 77 [some (.ref 21), some (.int x1), some (.int x2), some (.long x3), none, some (.int x5), none, none, none] [] (S, M, O) (.inl (some (.long r))) (S, M, O) := by
  intro x1 x2 x3 x5 S r hF
  unfold F_Sh_byJust_77 at hF
  refine Ex_go 2 (pc' := 5) (L' := [some (.ref 21), some (.int x1), some (.int x2), some (.long x3), none, some (.int (x5 + (1 : Int32))), none, none, none]) (st' := []) (σ' := (S, M, O)) (rfl) ?_
  exact Ex_mono (L := [some (.ref 21), some (.int x1), some (.int x2), some (.long x3), none, some (.int (x5 + (1 : Int32))), none, none, none]) (Le_s (Le_s (Le_s (Le_s (Le_n (Le_s (Le_n (Le_n (Le_n (Le_0)))))))))) (hk5 _ _ _ _ _ _ hF) (Nat.le_refl _) (by omega)
def F_Sh_byJust_75 (k5 : Int32 → Int32 → Int64 → Int32 → Sto → Option Int64) (x1 : Int32) (x2 : Int32) (x5 : Int32) (s0 : Int64) (s1 : Int64) (S : Sto) : Option Int64 := F_Sh_byJust_77 k5 x1 x2 (s0 + s1) x5 S
set_option maxRecDepth 100000 in
theorem X_Sh_byJust_75 {nL : Nat} {xs : Nat → Int32} {M : Sto} {O : Sto} {d : Nat} (hd : 2 ≤ d) {k5 : Int32 → Int32 → Int64 → Int32 → Sto → Option Int64} (hk5 : ∀ (x1 : Int32) (x2 : Int32) (x3 : Int64) (x5 : Int32) (S : Sto) (r : Int64), k5 x1 x2 x3 x5 S = some r → EX nL xs 0 MI_153 d 5 [some (.ref 21), some (.int x1), some (.int x2), some (.long x3), none, some (.int x5), none, none, none] [] (S, M, O) (.inl (some (.long r))) (S, M, O)) : ∀ (x1 : Int32) (x2 : Int32) (x5 : Int32) (s0 : Int64) (s1 : Int64) (S : Sto) (r : Int64), F_Sh_byJust_75 k5 x1 x2 x5 s0 s1 S = some r → EX nL xs 0 MI_153 d 75 [some (.ref 21), some (.int x1), some (.int x2), none, none, some (.int x5), none, none, none] [.long s1, .long s0] (S, M, O) (.inl (some (.long r))) (S, M, O) := by
  intro x1 x2 x5 s0 s1 S r hF
  unfold F_Sh_byJust_75 at hF
  refine Ex_go 2 (pc' := 77) (L' := [some (.ref 21), some (.int x1), some (.int x2), some (.long (s0 + s1)), none, some (.int x5), none, none, none]) (st' := []) (σ' := (S, M, O)) (rfl) ?_
  exact Ex_mono (L := [some (.ref 21), some (.int x1), some (.int x2), some (.long (s0 + s1)), none, some (.int x5), none, none, none]) (Le_s (Le_s (Le_s (Le_s (Le_n (Le_s (Le_n (Le_n (Le_n (Le_0)))))))))) (X_Sh_byJust_77 hd hk5 _ _ _ _ _ _ hF) (Nat.le_refl _) (by omega)
def F_Sh_byJust_5 : Nat → Int32 → Int32 → Int64 → Int32 → Sto → Option Int64
  | 0, _, _, _, _, _ => none
  | n + 1, x1, x2, x3, x5, S => if x1 < x5 then some x3 else if (256 : Int32) ≤ x5 then some x3 else b1 (F_j_bitCountI x5) (fun r1 => if (x5 &&& x1) = x5 then if r1 < x2 then F_Sh_byJust_77 (F_Sh_byJust_5 n) x1 x2 x3 x5 S else b1 (F_Sh_choices r1 x2) (fun r3 => ck (ib x5 256) (if ((r1 - x2) &&& (1 : Int32)) = 0 then F_Sh_byJust_75 (F_Sh_byJust_5 n) x1 x2 x5 x3 (r3 * (al S 26 (Int32.toNatClampNeg x5))) S else F_Sh_byJust_75 (F_Sh_byJust_5 n) x1 x2 x5 x3 (-(r3 * (al S 26 (Int32.toNatClampNeg x5)))) S)) else F_Sh_byJust_77 (F_Sh_byJust_5 n) x1 x2 x3 x5 S)
set_option maxRecDepth 100000 in
theorem X_Sh_byJust_5 {nL : Nat} {xs : Nat → Int32} {M : Sto} {O : Sto} {d : Nat} (hd : 2 ≤ d) : ∀ n : Nat, ∀ (x1 : Int32) (x2 : Int32) (x3 : Int64) (x5 : Int32) (S : Sto) (r : Int64), F_Sh_byJust_5 n x1 x2 x3 x5 S = some r → EX nL xs 0 MI_153 d 5 [some (.ref 21), some (.int x1), some (.int x2), some (.long x3), none, some (.int x5), none, none, none] [] (S, M, O) (.inl (some (.long r))) (S, M, O) := by
  intro n
  induction n with
  | zero => intro x1 x2 x3 x5 S r hF; cases hF
  | succ n ih =>
  intro x1 x2 x3 x5 S r hF
  unfold F_Sh_byJust_5 at hF
  refine Ex_go 3 (pc' := if x1 < x5 then 83 else 11) (L' := [some (.ref 21), some (.int x1), some (.int x2), some (.long x3), none, some (.int x5), none, none, none]) (st' := []) (σ' := (S, M, O)) (rfl) ?_
  refine Ex_br (fun hc => ?_) (fun hc => ?_)
  · rw [if_pos hc] at hF
    refine Ex_go 1 (pc' := 84) (L' := [some (.ref 21), some (.int x1), some (.int x2), some (.long x3), none, some (.int x5), none, none, none]) (st' := [.long x3]) (σ' := (S, M, O)) (rfl) ?_
    cases hF
    exact Ex_fin rfl
  · rw [if_neg hc] at hF
    refine Ex_go 3 (pc' := if (256 : Int32) ≤ x5 then 83 else 19) (L' := [some (.ref 21), some (.int x1), some (.int x2), some (.long x3), none, some (.int x5), none, none, none]) (st' := []) (σ' := (S, M, O)) (rfl) ?_
    refine Ex_br (fun hc => ?_) (fun hc => ?_)
    · rw [if_pos hc] at hF
      refine Ex_go 1 (pc' := 84) (L' := [some (.ref 21), some (.int x1), some (.int x2), some (.long x3), none, some (.int x5), none, none, none]) (st' := [.long x3]) (σ' := (S, M, O)) (rfl) ?_
      cases hF
      exact Ex_fin rfl
    · rw [if_neg hc] at hF
      refine Ex_go 1 (pc' := 21) (L' := [some (.ref 21), some (.int x1), some (.int x2), some (.long x3), none, some (.int x5), none, none, none]) (st' := [.int x5]) (σ' := (S, M, O)) (rfl) ?_
      obtain ⟨r1, hx2, hF⟩ := b1_i hF
      refine Ex_call (kind := 0) (y := 144) (as := [.int x5]) (rest := []) (L0 := [some (.int x5)]) (d' := 1) (v := some (.int r1)) (σ1 := (S, M, O)) rfl rfl mt_144 rfl rfl (by omega) (X_j_bitCountI (Nat.le_refl _) _ _ hx2) (Ex_st (st2 := [.int r1]) rfl ?_)
      refine Ex_go 6 (pc' := if ¬ (x5 &&& x1) = x5 then 77 else 35) (L' := [some (.ref 21), some (.int x1), some (.int x2), some (.long x3), none, some (.int x5), some (.int r1), none, none]) (st' := []) (σ' := (S, M, O)) (rfl) ?_
      refine Ex_brN (fun hc => ?_) (fun hc => ?_)
      · rw [if_pos hc] at hF
        refine Ex_go 3 (pc' := if r1 < x2 then 77 else 41) (L' := [some (.ref 21), some (.int x1), some (.int x2), some (.long x3), none, some (.int x5), some (.int r1), none, none]) (st' := []) (σ' := (S, M, O)) (rfl) ?_
        refine Ex_br (fun hc => ?_) (fun hc => ?_)
        · rw [if_pos hc] at hF
          exact Ex_mono (L := [some (.ref 21), some (.int x1), some (.int x2), some (.long x3), none, some (.int x5), none, none, none]) (Le_s (Le_s (Le_s (Le_s (Le_n (Le_s (Le_n (Le_n (Le_n (Le_0)))))))))) (X_Sh_byJust_77 hd ih _ _ _ _ _ _ hF) (Nat.le_refl _) (by omega)
        · rw [if_neg hc] at hF
          refine Ex_go 2 (pc' := 44) (L' := [some (.ref 21), some (.int x1), some (.int x2), some (.long x3), none, some (.int x5), some (.int r1), none, none]) (st' := [.int x2, .int r1]) (σ' := (S, M, O)) (rfl) ?_
          obtain ⟨r3, hx4, hF⟩ := b1_i hF
          refine Ex_call (kind := 0) (y := 152) (as := [.int r1, .int x2]) (rest := []) (L0 := [some (.int r1), some (.int x2), none, none, none]) (d' := 1) (v := some (.long r3)) (σ1 := (S, M, O)) rfl rfl mt_152 rfl rfl (by omega) (X_Sh_choices (Nat.le_refl _) _ _ _ hx4) (Ex_st (st2 := [.long r3]) rfl ?_)
          refine Ex_go 3 (pc' := 53) (L' := [some (.ref 21), some (.int x1), some (.int x2), some (.long x3), none, some (.int x5), some (.int r1), none, none]) (st' := [.int x5, .ref 26, .long r3]) (σ' := (S, M, O)) (rfl) ?_
          obtain ⟨hc5, hF⟩ := ck_i hF
          refine Ex_chk (b := ib x5 256) (pc' := 54) (L' := [some (.ref 21), some (.int x1), some (.int x2), some (.long x3), none, some (.int x5), some (.int r1), none, none]) (st' := [.long (al S 26 (Int32.toNatClampNeg x5)), .long r3]) (σ' := (S, M, O)) rfl hc5 ?_
          refine Ex_go 9 (pc' := if ¬ ((r1 - x2) &&& (1 : Int32)) = 0 then 72 else 67) (L' := [some (.ref 21), some (.int x1), some (.int x2), some (.long x3), none, some (.int x5), some (.int r1), some (.long (r3 * (al S 26 (Int32.toNatClampNeg x5)))), none]) (st' := [.long x3]) (σ' := (S, M, O)) (rfl) ?_
          refine Ex_brN (fun hc => ?_) (fun hc => ?_)
          · rw [if_pos hc] at hF
            refine Ex_go 2 (pc' := 75) (L' := [some (.ref 21), some (.int x1), some (.int x2), some (.long x3), none, some (.int x5), some (.int r1), some (.long (r3 * (al S 26 (Int32.toNatClampNeg x5)))), none]) (st' := [.long (r3 * (al S 26 (Int32.toNatClampNeg x5))), .long x3]) (σ' := (S, M, O)) (rfl) ?_
            exact Ex_mono (L := [some (.ref 21), some (.int x1), some (.int x2), none, none, some (.int x5), none, none, none]) (Le_s (Le_s (Le_s (Le_n (Le_n (Le_s (Le_n (Le_n (Le_n (Le_0)))))))))) (X_Sh_byJust_75 hd ih _ _ _ _ _ _ _ hF) (Nat.le_refl _) (by omega)
          · rw [if_neg hc] at hF
            refine Ex_go 2 (pc' := 75) (L' := [some (.ref 21), some (.int x1), some (.int x2), some (.long x3), none, some (.int x5), some (.int r1), some (.long (r3 * (al S 26 (Int32.toNatClampNeg x5)))), none]) (st' := [.long (-(r3 * (al S 26 (Int32.toNatClampNeg x5)))), .long x3]) (σ' := (S, M, O)) (rfl) ?_
            exact Ex_mono (L := [some (.ref 21), some (.int x1), some (.int x2), none, none, some (.int x5), none, none, none]) (Le_s (Le_s (Le_s (Le_n (Le_n (Le_s (Le_n (Le_n (Le_n (Le_0)))))))))) (X_Sh_byJust_75 hd ih _ _ _ _ _ _ _ hF) (Nat.le_refl _) (by omega)
      · rw [if_neg hc] at hF
        exact Ex_mono (L := [some (.ref 21), some (.int x1), some (.int x2), some (.long x3), none, some (.int x5), none, none, none]) (Le_s (Le_s (Le_s (Le_s (Le_n (Le_s (Le_n (Le_n (Le_n (Le_0)))))))))) (X_Sh_byJust_77 hd ih _ _ _ _ _ _ hF) (Nat.le_refl _) (by omega)
def F_Sh_byJust (x1 : Int32) (x2 : Int32) (S : Sto) : Option Int64 := F_Sh_byJust_5 FU x1 x2 (0 : Int64) (0 : Int32) S
set_option maxRecDepth 100000 in
theorem X_Sh_byJust {nL : Nat} {xs : Nat → Int32} {M : Sto} {O : Sto} {d : Nat} (hd : 2 ≤ d) : ∀ (x1 : Int32) (x2 : Int32) (S : Sto) (r : Int64), F_Sh_byJust x1 x2 S = some r → EX nL xs 0 MI_153 d 0 [some (.ref 21), some (.int x1), some (.int x2), none, none, none, none, none, none] [] (S, M, O) (.inl (some (.long r))) (S, M, O) := by
  intro x1 x2 S r hF
  unfold F_Sh_byJust at hF
  refine Ex_go 4 (pc' := 5) (L' := [some (.ref 21), some (.int x1), some (.int x2), some (.long (0 : Int64)), none, some (.int (0 : Int32)), none, none, none]) (st' := []) (σ' := (S, M, O)) (rfl) ?_
  exact Ex_mono (L := [some (.ref 21), some (.int x1), some (.int x2), some (.long (0 : Int64)), none, some (.int (0 : Int32)), none, none, none]) (Le_s (Le_s (Le_s (Le_s (Le_n (Le_s (Le_n (Le_n (Le_n (Le_0)))))))))) (X_Sh_byJust_5 hd FU _ _ _ _ _ _ hF) (Nat.le_refl _) (by omega)
def F_w_just_21 (S : Sto) : Option ((Int64 ⊕ Nat) × Sto) := some ((.inr 0), S)
set_option maxRecDepth 100000 in
theorem X_w_just_21 {nL : Nat} {xs : Nat → Int32} {M : Sto} {O : Sto} {d : Nat} (hd : 9 ≤ d) : ∀ (S : Sto) (r : Int64 ⊕ Nat) (S' : Sto), F_w_just_21 S = some (r, S') → EX nL xs 1 MI_154 d 21 [none, none, none] [] (S, M, O) (rsJ r) (S', M, O) := by
  intro S r S' hF
  unfold F_w_just_21 at hF
  cases hF
  exact Ex_thr rfl (by omega) (Nat.le_refl _)
def F_w_just (x1 : Int32) (x2 : Int32) (S : Sto) : Option ((Int64 ⊕ Nat) × Sto) := b1 (F_Sh_has x1 S) (fun r1 => if r1 = 0 then F_w_just_21 S else if x2 < 0 then F_w_just_21 S else if x2 ≤ (8 : Int32) then b2 (F_Sh_measure (gl S 26) (gl S 27) S) (fun r3 S5 => b1 (F_Sh_byJust x1 x2 S5) (fun r6 => some ((.inl r6), S5))) else F_w_just_21 S)
set_option maxRecDepth 100000 in
theorem X_w_just {nL : Nat} {xs : Nat → Int32} {M : Sto} {O : Sto} {d : Nat} (hd : 9 ≤ d) : ∀ (x1 : Int32) (x2 : Int32) (S : Sto) (r : Int64 ⊕ Nat) (S' : Sto), F_w_just x1 x2 S = some (r, S') → EX nL xs 1 MI_154 d 0 [some (.ref 0), some (.int x1), some (.int x2)] [] (S, M, O) (rsJ r) (S', M, O) := by
  intro x1 x2 S r S' hF
  unfold F_w_just at hF
  refine Ex_go 3 (pc' := 5) (L' := [some (.ref 0), some (.int x1), some (.int x2)]) (st' := [.int x1, .ref 21]) (σ' := (S, M, O)) (rfl) ?_
  obtain ⟨r1, hx2, hF⟩ := b1_i hF
  refine Ex_callK (K1 := 0) (K2 := 1) (kind := 2) (y := 40) (as := [.ref 21, .int x1]) (rest := []) (L0 := [some (.ref 21), some (.int x1)]) (d' := 1) (v := some (.int r1)) (σ1 := (S, M, O)) rfl rfl mt_40 rfl rfl (by omega) (X_Sh_has (Nat.le_refl _) _ _ _ hx2) (Ex_st (st2 := [.int r1]) rfl ?_) (by omega)
  refine Ex_go 1 (pc' := if r1 = 0 then 21 else 11) (L' := [some (.ref 0), some (.int x1), some (.int x2)]) (st' := []) (σ' := (S, M, O)) (rfl) ?_
  refine Ex_br (fun hc => ?_) (fun hc => ?_)
  · rw [if_pos hc] at hF
    exact Ex_mono (L := [none, none, none]) (Le_n (Le_n (Le_n (Le_0)))) (X_w_just_21 hd _ _ _ hF) (Nat.le_refl _) (by omega)
  · rw [if_neg hc] at hF
    refine Ex_go 2 (pc' := if x2 < 0 then 21 else 15) (L' := [some (.ref 0), some (.int x1), some (.int x2)]) (st' := []) (σ' := (S, M, O)) (rfl) ?_
    refine Ex_br (fun hc => ?_) (fun hc => ?_)
    · rw [if_pos hc] at hF
      exact Ex_mono (L := [none, none, none]) (Le_n (Le_n (Le_n (Le_0)))) (X_w_just_21 hd _ _ _ hF) (Nat.le_refl _) (by omega)
    · rw [if_neg hc] at hF
      refine Ex_go 3 (pc' := if x2 ≤ (8 : Int32) then 29 else 21) (L' := [some (.ref 0), some (.int x1), some (.int x2)]) (st' := []) (σ' := (S, M, O)) (rfl) ?_
      refine Ex_br (fun hc => ?_) (fun hc => ?_)
      · rw [if_pos hc] at hF
        refine Ex_go 8 (pc' := 47) (L' := [some (.ref 0), some (.int x1), some (.int x2)]) (st' := [.long (gl S 27), .long (gl S 26), .ref 21]) (σ' := (S, M, O)) (rfl) ?_
        obtain ⟨r3, S5, hx4, hF⟩ := b2_i hF
        refine Ex_callK (K1 := 0) (K2 := 1) (kind := 2) (y := 143) (as := [.ref 21, .long (gl S 26), .long (gl S 27)]) (rest := []) (L0 := [some (.ref 21), some (.long (gl S 26)), none, some (.long (gl S 27)), none, none]) (d' := 8) (v := none) (σ1 := (S5, M, O)) rfl rfl mt_143 rfl rfl (by omega) (X_Sh_measure (Nat.le_refl _) _ _ _ _ _ hx4) (Ex_st (st2 := []) rfl ?_) (by omega)
        refine Ex_go 4 (pc' := 56) (L' := [some (.ref 0), some (.int x1), some (.int x2)]) (st' := [.int x2, .int x1, .ref 21]) (σ' := (S5, M, O)) (rfl) ?_
        obtain ⟨r6, hx7, hF⟩ := b1_i hF
        refine Ex_callK (K1 := 0) (K2 := 1) (kind := 2) (y := 153) (as := [.ref 21, .int x1, .int x2]) (rest := []) (L0 := [some (.ref 21), some (.int x1), some (.int x2), none, none, none, none, none, none]) (d' := 2) (v := some (.long r6)) (σ1 := (S5, M, O)) rfl rfl mt_153 rfl rfl (by omega) (X_Sh_byJust (Nat.le_refl _) _ _ _ _ hx7) (Ex_st (st2 := [.long r6]) rfl ?_) (by omega)
        cases hF
        exact Ex_fin rfl
      · rw [if_neg hc] at hF
        exact Ex_mono (L := [none, none, none]) (Le_n (Le_n (Le_n (Le_0)))) (X_w_just_21 hd _ _ _ hF) (Nat.le_refl _) (by omega)
def F_l_just (x1 : Int32) (x2 : Int32) (S : Sto) (O : Sto) : Option (Int32 × Sto × Sto) := b2 (F_w_just x1 x2 S) (fun r1 S3 => su r1 (fun v4 => some ((0 : Int32), S3, (ul O 2000 (vp_updL (al O 2000) (Int32.toNatClampNeg (0 : Int32)) v4)))) (fun z5 => if z5 = 0 then some ((1 : Int32), S3, O) else (none)))
set_option maxRecDepth 100000 in
theorem X_l_just {nL : Nat} {xs : Nat → Int32} {M : Sto} {d : Nat} (hd : 10 ≤ d) : ∀ (x1 : Int32) (x2 : Int32) (S : Sto) (O : Sto) (r : Int32) (S' : Sto) (O' : Sto), F_l_just x1 x2 S O = some (r, S', O') → EX nL xs 1 MI_155 d 0 [some (.ref 0), some (.int x1), some (.int x2), some (.ref 2000), none] [] (S, M, O) (.inl (some (.int r))) (S', M, O') := by
  intro x1 x2 S O r S' O' hF
  unfold F_l_just at hF
  refine Ex_go 5 (pc' := 5) (L' := [some (.ref 0), some (.int x1), some (.int x2), some (.ref 2000), none]) (st' := [.int x2, .int x1, .ref 0, .int (0 : Int32), .ref 2000]) (σ' := (S, M, O)) (rfl) ?_
  obtain ⟨r1, S3, hx2, hF⟩ := b2_i hF
  cases r1 with
  | inl v4 =>
    rw [su_l] at hF
    refine Ex_callK (K1 := 1) (K2 := 0) (kind := 3) (y := 154) (as := [.ref 0, .int x1, .int x2]) (rest := [.int (0 : Int32), .ref 2000]) (L0 := [some (.ref 0), some (.int x1), some (.int x2)]) (d' := 9) (v := some (.long v4)) (σ1 := (S3, M, O)) rfl rfl mt_154 rfl rfl (by omega) (X_w_just (Nat.le_refl _) _ _ _ _ _ hx2) (Ex_st (st2 := [.long v4, .int (0 : Int32), .ref 2000]) rfl ?_) (by omega)
    refine Ex_chk (b := ib (0 : Int32) 1) (pc' := 9) (L' := [some (.ref 0), some (.int x1), some (.int x2), some (.ref 2000), none]) (st' := []) (σ' := (S3, M, (ul O 2000 (vp_updL (al O 2000) (Int32.toNatClampNeg (0 : Int32)) v4)))) rfl (by decide) ?_
    refine Ex_go 2 (pc' := 17) (L' := [some (.ref 0), some (.int x1), some (.int x2), some (.ref 2000), none]) (st' := [.int (0 : Int32)]) (σ' := (S3, M, (ul O 2000 (vp_updL (al O 2000) (Int32.toNatClampNeg (0 : Int32)) v4)))) (rfl) ?_
    cases hF
    exact Ex_fin rfl
  | inr z5 =>
    by_cases hz0 : z5 = 0
    · have hF : (if z5 = 0 then _ else _) = _ := hF
      rw [if_pos hz0] at hF
      subst hz0
      refine Ex_callX (K1 := 1) (K2 := 0) (y := 154) (as := [.ref 0, .int x1, .int x2]) (rest := [.int (0 : Int32), .ref 2000]) (L0 := [some (.ref 0), some (.int x1), some (.int x2)]) (d' := 9) (σ1 := (S3, M, O)) (x := 0) (pc' := 14) (i := 4) rfl rfl mt_154 rfl rfl (by omega) (X_w_just (Nat.le_refl _) _ _ _ _ _ hx2) rfl (Ex_L (L2 := [some (.ref 0), some (.int x1), some (.int x2), some (.ref 2000), none]) rfl ?_) (by omega)
      refine Ex_go 1 (pc' := 15) (L' := [some (.ref 0), some (.int x1), some (.int x2), some (.ref 2000), none]) (st' := [.int (1 : Int32)]) (σ' := (S3, M, O)) (rfl) ?_
      cases hF
      exact Ex_fin rfl
    have hF : (if z5 = 0 then _ else _) = _ := hF
    rw [if_neg hz0] at hF
    cases hF
def F_m_just_34 (M : Sto) : Option (Int64 × Sto) := b2 (F_m_fail (1 : Int32) M) (fun r1 M3 => some ((Int32.toInt64 r1), M3))
set_option maxRecDepth 100000 in
theorem X_m_just_34 {nL : Nat} {xs : Nat → Int32} {S : Sto} {O : Sto} {d : Nat} (hd : 10 ≤ d) : ∀ (M : Sto) (r : Int64) (M' : Sto), F_m_just_34 M = some (r, M') → EX nL xs 0 MI_156 d 34 [some (.ref 1000), none, none] [] (S, M, O) (.inl (some (.long r))) (S, M', O) := by
  intro M r M' hF
  unfold F_m_just_34 at hF
  refine Ex_go 2 (pc' := 36) (L' := [some (.ref 1000), none, none]) (st' := [.int (1 : Int32), .ref 1000]) (σ' := (S, M, O)) (rfl) ?_
  obtain ⟨r1, M3, hx2, hF⟩ := b2_i hF
  refine Ex_call (kind := 2) (y := 50) (as := [.ref 1000, .int (1 : Int32)]) (rest := []) (L0 := [some (.ref 1000), some (.int (1 : Int32))]) (d' := 1) (v := some (.int r1)) (σ1 := (S, M3, O)) rfl rfl mt_50 rfl rfl (by omega) (X_m_fail (Nat.le_refl _) _ _ _ _ hx2) (Ex_st (st2 := [.int r1]) rfl ?_)
  refine Ex_go 1 (pc' := 40) (L' := [some (.ref 1000), none, none]) (st' := [.long (Int32.toInt64 r1)]) (σ' := (S, M3, O)) (rfl) ?_
  cases hF
  exact Ex_fin rfl
def F_m_just (x1 : Int32) (x2 : Int32) (M : Sto) : Option (Int64 × Sto) := b1 (F_m_isSet x1 (si M 1001 (0 : Int32))) (fun r1 => if r1 = 0 then F_m_just_34 (si M 1001 (0 : Int32)) else b1 (F_m_isIn (Int32.toInt64 x2) (0 : Int64) (8 : Int64)) (fun r3 => if r3 = 0 then F_m_just_34 (si M 1001 (0 : Int32)) else b2 (F_m_justOf x1 x2 (si M 1001 (0 : Int32))) (fun r5 M7 => some (r5, M7))))
set_option maxRecDepth 100000 in
theorem X_m_just {nL : Nat} {xs : Nat → Int32} {S : Sto} {O : Sto} {d : Nat} (hd : 10 ≤ d) : ∀ (x1 : Int32) (x2 : Int32) (M : Sto) (r : Int64) (M' : Sto), F_m_just x1 x2 M = some (r, M') → EX nL xs 0 MI_156 d 0 [some (.ref 1000), some (.int x1), some (.int x2)] [] (S, M, O) (.inl (some (.long r))) (S, M', O) := by
  intro x1 x2 M r M' hF
  unfold F_m_just at hF
  refine Ex_go 5 (pc' := 7) (L' := [some (.ref 1000), some (.int x1), some (.int x2)]) (st' := [.int x1, .ref 1000]) (σ' := (S, (si M 1001 (0 : Int32)), O)) (rfl) ?_
  obtain ⟨r1, hx2, hF⟩ := b1_i hF
  refine Ex_call (kind := 2) (y := 134) (as := [.ref 1000, .int x1]) (rest := []) (L0 := [some (.ref 1000), some (.int x1)]) (d' := 2) (v := some (.int r1)) (σ1 := (S, (si M 1001 (0 : Int32)), O)) rfl rfl mt_134 rfl rfl (by omega) (X_m_isSet (Nat.le_refl _) _ _ _ hx2) (Ex_st (st2 := [.int r1]) rfl ?_)
  refine Ex_go 1 (pc' := if r1 = 0 then 34 else 13) (L' := [some (.ref 1000), some (.int x1), some (.int x2)]) (st' := []) (σ' := (S, (si M 1001 (0 : Int32)), O)) (rfl) ?_
  refine Ex_br (fun hc => ?_) (fun hc => ?_)
  · rw [if_pos hc] at hF
    exact Ex_mono (L := [some (.ref 1000), none, none]) (Le_s (Le_n (Le_n (Le_0)))) (X_m_just_34 hd _ _ _ hF) (Nat.le_refl _) (by omega)
  · rw [if_neg hc] at hF
    refine Ex_go 4 (pc' := 19) (L' := [some (.ref 1000), some (.int x1), some (.int x2)]) (st' := [.long (8 : Int64), .long (0 : Int64), .long (Int32.toInt64 x2)]) (σ' := (S, (si M 1001 (0 : Int32)), O)) (rfl) ?_
    obtain ⟨r3, hx4, hF⟩ := b1_i hF
    refine Ex_call (kind := 0) (y := 91) (as := [.long (Int32.toInt64 x2), .long (0 : Int64), .long (8 : Int64)]) (rest := []) (L0 := [some (.long (Int32.toInt64 x2)), none, some (.long (0 : Int64)), none, some (.long (8 : Int64)), none]) (d' := 1) (v := some (.int r3)) (σ1 := (S, (si M 1001 (0 : Int32)), O)) rfl rfl mt_91 rfl rfl (by omega) (X_m_isIn (Nat.le_refl _) _ _ _ _ hx4) (Ex_st (st2 := [.int r3]) rfl ?_)
    refine Ex_go 1 (pc' := if r3 = 0 then 34 else 25) (L' := [some (.ref 1000), some (.int x1), some (.int x2)]) (st' := []) (σ' := (S, (si M 1001 (0 : Int32)), O)) (rfl) ?_
    refine Ex_br (fun hc => ?_) (fun hc => ?_)
    · rw [if_pos hc] at hF
      exact Ex_mono (L := [some (.ref 1000), none, none]) (Le_s (Le_n (Le_n (Le_0)))) (X_m_just_34 hd _ _ _ hF) (Nat.le_refl _) (by omega)
    · rw [if_neg hc] at hF
      refine Ex_go 3 (pc' := 28) (L' := [some (.ref 1000), some (.int x1), some (.int x2)]) (st' := [.int x2, .int x1, .ref 1000]) (σ' := (S, (si M 1001 (0 : Int32)), O)) (rfl) ?_
      obtain ⟨r5, M7, hx6, hF⟩ := b2_i hF
      refine Ex_call (kind := 2) (y := 149) (as := [.ref 1000, .int x1, .int x2]) (rest := []) (L0 := [some (.ref 1000), some (.int x1), some (.int x2), none, none, none, none, none, none]) (d' := 9) (v := some (.long r5)) (σ1 := (S, M7, O)) rfl rfl mt_149 rfl rfl (by omega) (X_m_justOf (Nat.le_refl _) _ _ _ _ _ hx6) (Ex_st (st2 := [.long r5]) rfl ?_)
      refine Ex_go 1 (pc' := 40) (L' := [some (.ref 1000), some (.int x1), some (.int x2)]) (st' := [.long r5]) (σ' := (S, M7, O)) (rfl) ?_
      cases hF
      exact Ex_fin rfl
def F_w_some (x1 : Int32) (S : Sto) : Option ((Int64 ⊕ Nat) × Sto) := b1 (F_Sh_has x1 S) (fun r1 => if r1 = 0 then some ((.inr 0), S) else b2 (F_Sh_measure (gl S 26) (gl S 27) S) (fun r3 S5 => b1 (F_Sh_bySome x1 S5) (fun r6 => some ((.inl r6), S5))))
set_option maxRecDepth 100000 in
theorem X_w_some {nL : Nat} {xs : Nat → Int32} {M : Sto} {O : Sto} {d : Nat} (hd : 9 ≤ d) : ∀ (x1 : Int32) (S : Sto) (r : Int64 ⊕ Nat) (S' : Sto), F_w_some x1 S = some (r, S') → EX nL xs 1 MI_146 d 0 [some (.ref 0), some (.int x1)] [] (S, M, O) (rsJ r) (S', M, O) := by
  intro x1 S r S' hF
  unfold F_w_some at hF
  refine Ex_go 3 (pc' := 5) (L' := [some (.ref 0), some (.int x1)]) (st' := [.int x1, .ref 21]) (σ' := (S, M, O)) (rfl) ?_
  obtain ⟨r1, hx2, hF⟩ := b1_i hF
  refine Ex_callK (K1 := 0) (K2 := 1) (kind := 2) (y := 40) (as := [.ref 21, .int x1]) (rest := []) (L0 := [some (.ref 21), some (.int x1)]) (d' := 1) (v := some (.int r1)) (σ1 := (S, M, O)) rfl rfl mt_40 rfl rfl (by omega) (X_Sh_has (Nat.le_refl _) _ _ _ hx2) (Ex_st (st2 := [.int r1]) rfl ?_) (by omega)
  refine Ex_go 1 (pc' := if ¬ r1 = 0 then 19 else 11) (L' := [some (.ref 0), some (.int x1)]) (st' := []) (σ' := (S, M, O)) (rfl) ?_
  refine Ex_brN (fun hc => ?_) (fun hc => ?_)
  · rw [if_pos hc] at hF
    cases hF
    exact Ex_thr rfl (by omega) (Nat.le_refl _)
  · rw [if_neg hc] at hF
    refine Ex_go 8 (pc' := 37) (L' := [some (.ref 0), some (.int x1)]) (st' := [.long (gl S 27), .long (gl S 26), .ref 21]) (σ' := (S, M, O)) (rfl) ?_
    obtain ⟨r3, S5, hx4, hF⟩ := b2_i hF
    refine Ex_callK (K1 := 0) (K2 := 1) (kind := 2) (y := 143) (as := [.ref 21, .long (gl S 26), .long (gl S 27)]) (rest := []) (L0 := [some (.ref 21), some (.long (gl S 26)), none, some (.long (gl S 27)), none, none]) (d' := 8) (v := none) (σ1 := (S5, M, O)) rfl rfl mt_143 rfl rfl (by omega) (X_Sh_measure (Nat.le_refl _) _ _ _ _ _ hx4) (Ex_st (st2 := []) rfl ?_) (by omega)
    refine Ex_go 3 (pc' := 45) (L' := [some (.ref 0), some (.int x1)]) (st' := [.int x1, .ref 21]) (σ' := (S5, M, O)) (rfl) ?_
    obtain ⟨r6, hx7, hF⟩ := b1_i hF
    refine Ex_callK (K1 := 0) (K2 := 1) (kind := 2) (y := 145) (as := [.ref 21, .int x1]) (rest := []) (L0 := [some (.ref 21), some (.int x1), none, none, none]) (d' := 2) (v := some (.long r6)) (σ1 := (S5, M, O)) rfl rfl mt_145 rfl rfl (by omega) (X_Sh_bySome (Nat.le_refl _) _ _ _ hx7) (Ex_st (st2 := [.long r6]) rfl ?_) (by omega)
    cases hF
    exact Ex_fin rfl
def F_l_some (x1 : Int32) (S : Sto) (O : Sto) : Option (Int32 × Sto × Sto) := b2 (F_w_some x1 S) (fun r1 S3 => su r1 (fun v4 => some ((0 : Int32), S3, (ul O 2000 (vp_updL (al O 2000) (Int32.toNatClampNeg (0 : Int32)) v4)))) (fun z5 => if z5 = 0 then some ((1 : Int32), S3, O) else (none)))
set_option maxRecDepth 100000 in
theorem X_l_some {nL : Nat} {xs : Nat → Int32} {M : Sto} {d : Nat} (hd : 10 ≤ d) : ∀ (x1 : Int32) (S : Sto) (O : Sto) (r : Int32) (S' : Sto) (O' : Sto), F_l_some x1 S O = some (r, S', O') → EX nL xs 1 MI_147 d 0 [some (.ref 0), some (.int x1), some (.ref 2000), none] [] (S, M, O) (.inl (some (.int r))) (S', M, O') := by
  intro x1 S O r S' O' hF
  unfold F_l_some at hF
  refine Ex_go 4 (pc' := 4) (L' := [some (.ref 0), some (.int x1), some (.ref 2000), none]) (st' := [.int x1, .ref 0, .int (0 : Int32), .ref 2000]) (σ' := (S, M, O)) (rfl) ?_
  obtain ⟨r1, S3, hx2, hF⟩ := b2_i hF
  cases r1 with
  | inl v4 =>
    rw [su_l] at hF
    refine Ex_callK (K1 := 1) (K2 := 0) (kind := 3) (y := 146) (as := [.ref 0, .int x1]) (rest := [.int (0 : Int32), .ref 2000]) (L0 := [some (.ref 0), some (.int x1)]) (d' := 9) (v := some (.long v4)) (σ1 := (S3, M, O)) rfl rfl mt_146 rfl rfl (by omega) (X_w_some (Nat.le_refl _) _ _ _ _ hx2) (Ex_st (st2 := [.long v4, .int (0 : Int32), .ref 2000]) rfl ?_) (by omega)
    refine Ex_chk (b := ib (0 : Int32) 1) (pc' := 8) (L' := [some (.ref 0), some (.int x1), some (.ref 2000), none]) (st' := []) (σ' := (S3, M, (ul O 2000 (vp_updL (al O 2000) (Int32.toNatClampNeg (0 : Int32)) v4)))) rfl (by decide) ?_
    refine Ex_go 2 (pc' := 15) (L' := [some (.ref 0), some (.int x1), some (.ref 2000), none]) (st' := [.int (0 : Int32)]) (σ' := (S3, M, (ul O 2000 (vp_updL (al O 2000) (Int32.toNatClampNeg (0 : Int32)) v4)))) (rfl) ?_
    cases hF
    exact Ex_fin rfl
  | inr z5 =>
    by_cases hz0 : z5 = 0
    · have hF : (if z5 = 0 then _ else _) = _ := hF
      rw [if_pos hz0] at hF
      subst hz0
      refine Ex_callX (K1 := 1) (K2 := 0) (y := 146) (as := [.ref 0, .int x1]) (rest := [.int (0 : Int32), .ref 2000]) (L0 := [some (.ref 0), some (.int x1)]) (d' := 9) (σ1 := (S3, M, O)) (x := 0) (pc' := 12) (i := 3) rfl rfl mt_146 rfl rfl (by omega) (X_w_some (Nat.le_refl _) _ _ _ _ hx2) rfl (Ex_L (L2 := [some (.ref 0), some (.int x1), some (.ref 2000), none]) rfl ?_) (by omega)
      refine Ex_go 1 (pc' := 13) (L' := [some (.ref 0), some (.int x1), some (.ref 2000), none]) (st' := [.int (1 : Int32)]) (σ' := (S3, M, O)) (rfl) ?_
      cases hF
      exact Ex_fin rfl
    have hF : (if z5 = 0 then _ else _) = _ := hF
    rw [if_neg hz0] at hF
    cases hF
def F_m_some (x1 : Int32) (M : Sto) : Option (Int64 × Sto) := b1 (F_m_isSet x1 (si M 1001 (0 : Int32))) (fun r1 => if r1 = 0 then b2 (F_m_fail (1 : Int32) (si M 1001 (0 : Int32))) (fun r3 M5 => some ((Int32.toInt64 r3), M5)) else b2 (F_m_someOf x1 (si M 1001 (0 : Int32))) (fun r6 M8 => some (r6, M8)))
set_option maxRecDepth 100000 in
theorem X_m_some {nL : Nat} {xs : Nat → Int32} {S : Sto} {O : Sto} {d : Nat} (hd : 11 ≤ d) : ∀ (x1 : Int32) (M : Sto) (r : Int64) (M' : Sto), F_m_some x1 M = some (r, M') → EX nL xs 0 MI_151 d 0 [some (.ref 1000), some (.int x1)] [] (S, M, O) (.inl (some (.long r))) (S, M', O) := by
  intro x1 M r M' hF
  unfold F_m_some at hF
  refine Ex_go 5 (pc' := 7) (L' := [some (.ref 1000), some (.int x1)]) (st' := [.int x1, .ref 1000]) (σ' := (S, (si M 1001 (0 : Int32)), O)) (rfl) ?_
  obtain ⟨r1, hx2, hF⟩ := b1_i hF
  refine Ex_call (kind := 2) (y := 134) (as := [.ref 1000, .int x1]) (rest := []) (L0 := [some (.ref 1000), some (.int x1)]) (d' := 2) (v := some (.int r1)) (σ1 := (S, (si M 1001 (0 : Int32)), O)) rfl rfl mt_134 rfl rfl (by omega) (X_m_isSet (Nat.le_refl _) _ _ _ hx2) (Ex_st (st2 := [.int r1]) rfl ?_)
  refine Ex_go 1 (pc' := if r1 = 0 then 21 else 13) (L' := [some (.ref 1000), some (.int x1)]) (st' := []) (σ' := (S, (si M 1001 (0 : Int32)), O)) (rfl) ?_
  refine Ex_br (fun hc => ?_) (fun hc => ?_)
  · rw [if_pos hc] at hF
    refine Ex_go 2 (pc' := 23) (L' := [some (.ref 1000), some (.int x1)]) (st' := [.int (1 : Int32), .ref 1000]) (σ' := (S, (si M 1001 (0 : Int32)), O)) (rfl) ?_
    obtain ⟨r3, M5, hx4, hF⟩ := b2_i hF
    refine Ex_call (kind := 2) (y := 50) (as := [.ref 1000, .int (1 : Int32)]) (rest := []) (L0 := [some (.ref 1000), some (.int (1 : Int32))]) (d' := 1) (v := some (.int r3)) (σ1 := (S, M5, O)) rfl rfl mt_50 rfl rfl (by omega) (X_m_fail (Nat.le_refl _) _ _ _ _ hx4) (Ex_st (st2 := [.int r3]) rfl ?_)
    refine Ex_go 1 (pc' := 27) (L' := [some (.ref 1000), some (.int x1)]) (st' := [.long (Int32.toInt64 r3)]) (σ' := (S, M5, O)) (rfl) ?_
    cases hF
    exact Ex_fin rfl
  · rw [if_neg hc] at hF
    refine Ex_go 2 (pc' := 15) (L' := [some (.ref 1000), some (.int x1)]) (st' := [.int x1, .ref 1000]) (σ' := (S, (si M 1001 (0 : Int32)), O)) (rfl) ?_
    obtain ⟨r6, M8, hx7, hF⟩ := b2_i hF
    refine Ex_call (kind := 2) (y := 150) (as := [.ref 1000, .int x1]) (rest := []) (L0 := [some (.ref 1000), some (.int x1)]) (d' := 10) (v := some (.long r6)) (σ1 := (S, M8, O)) rfl rfl mt_150 rfl rfl (by omega) (X_m_someOf (Nat.le_refl _) _ _ _ _ hx7) (Ex_st (st2 := [.long r6]) rfl ?_)
    refine Ex_go 1 (pc' := 27) (L' := [some (.ref 1000), some (.int x1)]) (st' := [.long r6]) (σ' := (S, M8, O)) (rfl) ?_
    cases hF
    exact Ex_fin rfl
def F_w_all (x1 : Int32) (S : Sto) : Option (Int64 ⊕ Nat) := b1 (F_Sh_has x1 S) (fun r1 => if r1 = 0 then some (.inr 0) else b1 (F_Sh_amount x1 (gl S 26) (gl S 27) S) (fun r3 => some (.inl r3)))
set_option maxRecDepth 100000 in
theorem X_w_all {nL : Nat} {xs : Nat → Int32} {M : Sto} {O : Sto} {d : Nat} (hd : 8 ≤ d) : ∀ (x1 : Int32) (S : Sto) (r : Int64 ⊕ Nat), F_w_all x1 S = some r → EX nL xs 1 MI_132 d 0 [some (.ref 0), some (.int x1)] [] (S, M, O) (rsJ r) (S, M, O) := by
  intro x1 S r hF
  unfold F_w_all at hF
  refine Ex_go 3 (pc' := 5) (L' := [some (.ref 0), some (.int x1)]) (st' := [.int x1, .ref 21]) (σ' := (S, M, O)) (rfl) ?_
  obtain ⟨r1, hx2, hF⟩ := b1_i hF
  refine Ex_callK (K1 := 0) (K2 := 1) (kind := 2) (y := 40) (as := [.ref 21, .int x1]) (rest := []) (L0 := [some (.ref 21), some (.int x1)]) (d' := 1) (v := some (.int r1)) (σ1 := (S, M, O)) rfl rfl mt_40 rfl rfl (by omega) (X_Sh_has (Nat.le_refl _) _ _ _ hx2) (Ex_st (st2 := [.int r1]) rfl ?_) (by omega)
  refine Ex_go 1 (pc' := if ¬ r1 = 0 then 19 else 11) (L' := [some (.ref 0), some (.int x1)]) (st' := []) (σ' := (S, M, O)) (rfl) ?_
  refine Ex_brN (fun hc => ?_) (fun hc => ?_)
  · rw [if_pos hc] at hF
    cases hF
    exact Ex_thr rfl (by omega) (Nat.le_refl _)
  · rw [if_neg hc] at hF
    refine Ex_go 9 (pc' := 38) (L' := [some (.ref 0), some (.int x1)]) (st' := [.long (gl S 27), .long (gl S 26), .int x1, .ref 21]) (σ' := (S, M, O)) (rfl) ?_
    obtain ⟨r3, hx4, hF⟩ := b1_i hF
    refine Ex_callK (K1 := 0) (K2 := 1) (kind := 2) (y := 131) (as := [.ref 21, .int x1, .long (gl S 26), .long (gl S 27)]) (rest := []) (L0 := [some (.ref 21), some (.int x1), some (.long (gl S 26)), none, some (.long (gl S 27)), none, none, none]) (d' := 7) (v := some (.long r3)) (σ1 := (S, M, O)) rfl rfl mt_131 rfl rfl (by omega) (X_Sh_amount (Nat.le_refl _) _ _ _ _ _ hx4) (Ex_st (st2 := [.long r3]) rfl ?_) (by omega)
    cases hF
    exact Ex_fin rfl
def F_l_all (x1 : Int32) (S : Sto) (O : Sto) : Option (Int32 × Sto) := b1 (F_w_all x1 S) (fun r1 => su r1 (fun v3 => some ((0 : Int32), (ul O 2000 (vp_updL (al O 2000) (Int32.toNatClampNeg (0 : Int32)) v3)))) (fun z4 => if z4 = 0 then some ((1 : Int32), O) else (none)))
set_option maxRecDepth 100000 in
theorem X_l_all {nL : Nat} {xs : Nat → Int32} {M : Sto} {d : Nat} (hd : 9 ≤ d) : ∀ (x1 : Int32) (S : Sto) (O : Sto) (r : Int32) (O' : Sto), F_l_all x1 S O = some (r, O') → EX nL xs 1 MI_133 d 0 [some (.ref 0), some (.int x1), some (.ref 2000), none] [] (S, M, O) (.inl (some (.int r))) (S, M, O') := by
  intro x1 S O r O' hF
  unfold F_l_all at hF
  refine Ex_go 4 (pc' := 4) (L' := [some (.ref 0), some (.int x1), some (.ref 2000), none]) (st' := [.int x1, .ref 0, .int (0 : Int32), .ref 2000]) (σ' := (S, M, O)) (rfl) ?_
  obtain ⟨r1, hx2, hF⟩ := b1_i hF
  cases r1 with
  | inl v3 =>
    rw [su_l] at hF
    refine Ex_callK (K1 := 1) (K2 := 0) (kind := 3) (y := 132) (as := [.ref 0, .int x1]) (rest := [.int (0 : Int32), .ref 2000]) (L0 := [some (.ref 0), some (.int x1)]) (d' := 8) (v := some (.long v3)) (σ1 := (S, M, O)) rfl rfl mt_132 rfl rfl (by omega) (X_w_all (Nat.le_refl _) _ _ _ hx2) (Ex_st (st2 := [.long v3, .int (0 : Int32), .ref 2000]) rfl ?_) (by omega)
    refine Ex_chk (b := ib (0 : Int32) 1) (pc' := 8) (L' := [some (.ref 0), some (.int x1), some (.ref 2000), none]) (st' := []) (σ' := (S, M, (ul O 2000 (vp_updL (al O 2000) (Int32.toNatClampNeg (0 : Int32)) v3)))) rfl (by decide) ?_
    refine Ex_go 2 (pc' := 15) (L' := [some (.ref 0), some (.int x1), some (.ref 2000), none]) (st' := [.int (0 : Int32)]) (σ' := (S, M, (ul O 2000 (vp_updL (al O 2000) (Int32.toNatClampNeg (0 : Int32)) v3)))) (rfl) ?_
    cases hF
    exact Ex_fin rfl
  | inr z4 =>
    by_cases hz0 : z4 = 0
    · have hF : (if z4 = 0 then _ else _) = _ := hF
      rw [if_pos hz0] at hF
      subst hz0
      refine Ex_callX (K1 := 1) (K2 := 0) (y := 132) (as := [.ref 0, .int x1]) (rest := [.int (0 : Int32), .ref 2000]) (L0 := [some (.ref 0), some (.int x1)]) (d' := 8) (σ1 := (S, M, O)) (x := 0) (pc' := 12) (i := 3) rfl rfl mt_132 rfl rfl (by omega) (X_w_all (Nat.le_refl _) _ _ _ hx2) rfl (Ex_L (L2 := [some (.ref 0), some (.int x1), some (.ref 2000), none]) rfl ?_) (by omega)
      refine Ex_go 1 (pc' := 13) (L' := [some (.ref 0), some (.int x1), some (.ref 2000), none]) (st' := [.int (1 : Int32)]) (σ' := (S, M, O)) (rfl) ?_
      cases hF
      exact Ex_fin rfl
    have hF : (if z4 = 0 then _ else _) = _ := hF
    rw [if_neg hz0] at hF
    cases hF
def F_m_all (x1 : Int32) (M : Sto) : Option (Int64 × Sto) := b1 (F_m_isSet x1 (si M 1001 (0 : Int32))) (fun r1 => if r1 = 0 then b2 (F_m_fail (1 : Int32) (si M 1001 (0 : Int32))) (fun r3 M5 => some ((Int32.toInt64 r3), M5)) else b2 (F_m_allOf x1 (si M 1001 (0 : Int32))) (fun r6 M8 => some (r6, M8)))
set_option maxRecDepth 100000 in
theorem X_m_all {nL : Nat} {xs : Nat → Int32} {S : Sto} {O : Sto} {d : Nat} (hd : 9 ≤ d) : ∀ (x1 : Int32) (M : Sto) (r : Int64) (M' : Sto), F_m_all x1 M = some (r, M') → EX nL xs 0 MI_142 d 0 [some (.ref 1000), some (.int x1)] [] (S, M, O) (.inl (some (.long r))) (S, M', O) := by
  intro x1 M r M' hF
  unfold F_m_all at hF
  refine Ex_go 5 (pc' := 7) (L' := [some (.ref 1000), some (.int x1)]) (st' := [.int x1, .ref 1000]) (σ' := (S, (si M 1001 (0 : Int32)), O)) (rfl) ?_
  obtain ⟨r1, hx2, hF⟩ := b1_i hF
  refine Ex_call (kind := 2) (y := 134) (as := [.ref 1000, .int x1]) (rest := []) (L0 := [some (.ref 1000), some (.int x1)]) (d' := 2) (v := some (.int r1)) (σ1 := (S, (si M 1001 (0 : Int32)), O)) rfl rfl mt_134 rfl rfl (by omega) (X_m_isSet (Nat.le_refl _) _ _ _ hx2) (Ex_st (st2 := [.int r1]) rfl ?_)
  refine Ex_go 1 (pc' := if r1 = 0 then 21 else 13) (L' := [some (.ref 1000), some (.int x1)]) (st' := []) (σ' := (S, (si M 1001 (0 : Int32)), O)) (rfl) ?_
  refine Ex_br (fun hc => ?_) (fun hc => ?_)
  · rw [if_pos hc] at hF
    refine Ex_go 2 (pc' := 23) (L' := [some (.ref 1000), some (.int x1)]) (st' := [.int (1 : Int32), .ref 1000]) (σ' := (S, (si M 1001 (0 : Int32)), O)) (rfl) ?_
    obtain ⟨r3, M5, hx4, hF⟩ := b2_i hF
    refine Ex_call (kind := 2) (y := 50) (as := [.ref 1000, .int (1 : Int32)]) (rest := []) (L0 := [some (.ref 1000), some (.int (1 : Int32))]) (d' := 1) (v := some (.int r3)) (σ1 := (S, M5, O)) rfl rfl mt_50 rfl rfl (by omega) (X_m_fail (Nat.le_refl _) _ _ _ _ hx4) (Ex_st (st2 := [.int r3]) rfl ?_)
    refine Ex_go 1 (pc' := 27) (L' := [some (.ref 1000), some (.int x1)]) (st' := [.long (Int32.toInt64 r3)]) (σ' := (S, M5, O)) (rfl) ?_
    cases hF
    exact Ex_fin rfl
  · rw [if_neg hc] at hF
    refine Ex_go 2 (pc' := 15) (L' := [some (.ref 1000), some (.int x1)]) (st' := [.int x1, .ref 1000]) (σ' := (S, (si M 1001 (0 : Int32)), O)) (rfl) ?_
    obtain ⟨r6, M8, hx7, hF⟩ := b2_i hF
    refine Ex_call (kind := 2) (y := 141) (as := [.ref 1000, .int x1]) (rest := []) (L0 := [some (.ref 1000), some (.int x1)]) (d' := 8) (v := some (.long r6)) (σ1 := (S, M8, O)) rfl rfl mt_141 rfl rfl (by omega) (X_m_allOf (Nat.le_refl _) _ _ _ _ hx7) (Ex_st (st2 := [.long r6]) rfl ?_)
    refine Ex_go 1 (pc' := 27) (L' := [some (.ref 1000), some (.int x1)]) (st' := [.long r6]) (σ' := (S, M8, O)) (rfl) ?_
    cases hF
    exact Ex_fin rfl
def F_w_nets (x1 : Int64) (S : Sto) : Option (Int32 ⊕ Nat) := b1 (F_w_isNumber x1) (fun r1 => if r1 = 0 then some (.inr 0) else b1 (F_Se_catchers x1 S) (fun r3 => some (.inl r3)))
set_option maxRecDepth 100000 in
theorem X_w_nets {nL : Nat} {xs : Nat → Int32} {M : Sto} {O : Sto} {d : Nat} (hd : 8 ≤ d) : ∀ (x1 : Int64) (S : Sto) (r : Int32 ⊕ Nat), F_w_nets x1 S = some r → EX nL xs 1 MI_125 d 0 [some (.ref 0), some (.long x1), none] [] (S, M, O) (rsI r) (S, M, O) := by
  intro x1 S r hF
  unfold F_w_nets at hF
  refine Ex_go 1 (pc' := 1) (L' := [some (.ref 0), some (.long x1), none]) (st' := [.long x1]) (σ' := (S, M, O)) (rfl) ?_
  obtain ⟨r1, hx2, hF⟩ := b1_i hF
  refine Ex_callK (K1 := 0) (K2 := 1) (kind := 0) (y := 98) (as := [.long x1]) (rest := []) (L0 := [some (.long x1), none]) (d' := 1) (v := some (.int r1)) (σ1 := (S, M, O)) rfl rfl mt_98 rfl rfl (by omega) (X_w_isNumber (Nat.le_refl _) _ _ hx2) (Ex_st (st2 := [.int r1]) rfl ?_) (by omega)
  refine Ex_go 1 (pc' := if ¬ r1 = 0 then 15 else 7) (L' := [some (.ref 0), some (.long x1), none]) (st' := []) (σ' := (S, M, O)) (rfl) ?_
  refine Ex_brN (fun hc => ?_) (fun hc => ?_)
  · rw [if_pos hc] at hF
    cases hF
    exact Ex_thr rfl (by omega) (Nat.le_refl _)
  · rw [if_neg hc] at hF
    refine Ex_go 3 (pc' := 20) (L' := [some (.ref 0), some (.long x1), none]) (st' := [.long x1, .ref 12]) (σ' := (S, M, O)) (rfl) ?_
    obtain ⟨r3, hx4, hF⟩ := b1_i hF
    refine Ex_callK (K1 := 0) (K2 := 1) (kind := 2) (y := 124) (as := [.ref 12, .long x1]) (rest := []) (L0 := [some (.ref 12), some (.long x1), none, none, none]) (d' := 2) (v := some (.int r3)) (σ1 := (S, M, O)) rfl rfl mt_124 rfl rfl (by omega) (X_Se_catchers (Nat.le_refl _) _ _ _ hx4) (Ex_st (st2 := [.int r3]) rfl ?_) (by omega)
    cases hF
    exact Ex_fin rfl
def F_l_nets (x1 : Int64) (S : Sto) (O : Sto) : Option (Int32 × Sto) := b1 (F_w_nets x1 S) (fun r1 => su r1 (fun v3 => some ((0 : Int32), (ul O 2000 (vp_updL (al O 2000) (Int32.toNatClampNeg (0 : Int32)) (Int32.toInt64 v3))))) (fun z4 => if z4 = 0 then some ((1 : Int32), O) else (none)))
set_option maxRecDepth 100000 in
theorem X_l_nets {nL : Nat} {xs : Nat → Int32} {M : Sto} {d : Nat} (hd : 9 ≤ d) : ∀ (x1 : Int64) (S : Sto) (O : Sto) (r : Int32) (O' : Sto), F_l_nets x1 S O = some (r, O') → EX nL xs 1 MI_126 d 0 [some (.ref 0), some (.long x1), none, some (.ref 2000), none] [] (S, M, O) (.inl (some (.int r))) (S, M, O') := by
  intro x1 S O r O' hF
  unfold F_l_nets at hF
  refine Ex_go 4 (pc' := 4) (L' := [some (.ref 0), some (.long x1), none, some (.ref 2000), none]) (st' := [.long x1, .ref 0, .int (0 : Int32), .ref 2000]) (σ' := (S, M, O)) (rfl) ?_
  obtain ⟨r1, hx2, hF⟩ := b1_i hF
  cases r1 with
  | inl v3 =>
    rw [su_l] at hF
    refine Ex_callK (K1 := 1) (K2 := 0) (kind := 3) (y := 125) (as := [.ref 0, .long x1]) (rest := [.int (0 : Int32), .ref 2000]) (L0 := [some (.ref 0), some (.long x1), none]) (d' := 8) (v := some (.int v3)) (σ1 := (S, M, O)) rfl rfl mt_125 rfl rfl (by omega) (X_w_nets (Nat.le_refl _) _ _ _ hx2) (Ex_st (st2 := [.int v3, .int (0 : Int32), .ref 2000]) rfl ?_) (by omega)
    refine Ex_go 1 (pc' := 8) (L' := [some (.ref 0), some (.long x1), none, some (.ref 2000), none]) (st' := [.long (Int32.toInt64 v3), .int (0 : Int32), .ref 2000]) (σ' := (S, M, O)) (rfl) ?_
    refine Ex_chk (b := ib (0 : Int32) 1) (pc' := 9) (L' := [some (.ref 0), some (.long x1), none, some (.ref 2000), none]) (st' := []) (σ' := (S, M, (ul O 2000 (vp_updL (al O 2000) (Int32.toNatClampNeg (0 : Int32)) (Int32.toInt64 v3))))) rfl (by decide) ?_
    refine Ex_go 2 (pc' := 17) (L' := [some (.ref 0), some (.long x1), none, some (.ref 2000), none]) (st' := [.int (0 : Int32)]) (σ' := (S, M, (ul O 2000 (vp_updL (al O 2000) (Int32.toNatClampNeg (0 : Int32)) (Int32.toInt64 v3))))) (rfl) ?_
    cases hF
    exact Ex_fin rfl
  | inr z4 =>
    by_cases hz0 : z4 = 0
    · have hF : (if z4 = 0 then _ else _) = _ := hF
      rw [if_pos hz0] at hF
      subst hz0
      refine Ex_callX (K1 := 1) (K2 := 0) (y := 125) (as := [.ref 0, .long x1]) (rest := [.int (0 : Int32), .ref 2000]) (L0 := [some (.ref 0), some (.long x1), none]) (d' := 8) (σ1 := (S, M, O)) (x := 0) (pc' := 14) (i := 4) rfl rfl mt_125 rfl rfl (by omega) (X_w_nets (Nat.le_refl _) _ _ _ hx2) rfl (Ex_L (L2 := [some (.ref 0), some (.long x1), none, some (.ref 2000), none]) rfl ?_) (by omega)
      refine Ex_go 1 (pc' := 15) (L' := [some (.ref 0), some (.long x1), none, some (.ref 2000), none]) (st' := [.int (1 : Int32)]) (σ' := (S, M, O)) (rfl) ?_
      cases hF
      exact Ex_fin rfl
    have hF : (if z4 = 0 then _ else _) = _ := hF
    rw [if_neg hz0] at hF
    cases hF
def F_m_nets (x1 : Int64) (M : Sto) : Option (Int32 × Sto) := b1 (F_m_isNumber x1) (fun r1 => if r1 = 0 then b2 (F_m_fail (1 : Int32) (si M 1001 (0 : Int32))) (fun r3 M5 => some (r3, M5)) else b1 (F_m_netsOf x1 (si M 1001 (0 : Int32))) (fun r6 => some (r6, (si M 1001 (0 : Int32)))))
set_option maxRecDepth 100000 in
theorem X_m_nets {nL : Nat} {xs : Nat → Int32} {S : Sto} {O : Sto} {d : Nat} (hd : 4 ≤ d) : ∀ (x1 : Int64) (M : Sto) (r : Int32) (M' : Sto), F_m_nets x1 M = some (r, M') → EX nL xs 0 MI_129 d 0 [some (.ref 1000), some (.long x1), none] [] (S, M, O) (.inl (some (.int r))) (S, M', O) := by
  intro x1 M r M' hF
  unfold F_m_nets at hF
  refine Ex_go 4 (pc' := 6) (L' := [some (.ref 1000), some (.long x1), none]) (st' := [.long x1]) (σ' := (S, (si M 1001 (0 : Int32)), O)) (rfl) ?_
  obtain ⟨r1, hx2, hF⟩ := b1_i hF
  refine Ex_call (kind := 0) (y := 101) (as := [.long x1]) (rest := []) (L0 := [some (.long x1), none]) (d' := 2) (v := some (.int r1)) (σ1 := (S, (si M 1001 (0 : Int32)), O)) rfl rfl mt_101 rfl rfl (by omega) (X_m_isNumber (Nat.le_refl _) _ _ hx2) (Ex_st (st2 := [.int r1]) rfl ?_)
  refine Ex_go 1 (pc' := if r1 = 0 then 20 else 12) (L' := [some (.ref 1000), some (.long x1), none]) (st' := []) (σ' := (S, (si M 1001 (0 : Int32)), O)) (rfl) ?_
  refine Ex_br (fun hc => ?_) (fun hc => ?_)
  · rw [if_pos hc] at hF
    refine Ex_go 2 (pc' := 22) (L' := [some (.ref 1000), some (.long x1), none]) (st' := [.int (1 : Int32), .ref 1000]) (σ' := (S, (si M 1001 (0 : Int32)), O)) (rfl) ?_
    obtain ⟨r3, M5, hx4, hF⟩ := b2_i hF
    refine Ex_call (kind := 2) (y := 50) (as := [.ref 1000, .int (1 : Int32)]) (rest := []) (L0 := [some (.ref 1000), some (.int (1 : Int32))]) (d' := 1) (v := some (.int r3)) (σ1 := (S, M5, O)) rfl rfl mt_50 rfl rfl (by omega) (X_m_fail (Nat.le_refl _) _ _ _ _ hx4) (Ex_st (st2 := [.int r3]) rfl ?_)
    cases hF
    exact Ex_fin rfl
  · rw [if_neg hc] at hF
    refine Ex_go 2 (pc' := 14) (L' := [some (.ref 1000), some (.long x1), none]) (st' := [.long x1, .ref 1000]) (σ' := (S, (si M 1001 (0 : Int32)), O)) (rfl) ?_
    obtain ⟨r6, hx7, hF⟩ := b1_i hF
    refine Ex_call (kind := 2) (y := 128) (as := [.ref 1000, .long x1]) (rest := []) (L0 := [some (.ref 1000), some (.long x1), none, none, none]) (d' := 3) (v := some (.int r6)) (σ1 := (S, (si M 1001 (0 : Int32)), O)) rfl rfl mt_128 rfl rfl (by omega) (X_m_netsOf (Nat.le_refl _) _ _ _ hx7) (Ex_st (st2 := [.int r6]) rfl ?_)
    refine Ex_go 1 (pc' := 25) (L' := [some (.ref 1000), some (.long x1), none]) (st' := [.int r6]) (σ' := (S, (si M 1001 (0 : Int32)), O)) (rfl) ?_
    cases hF
    exact Ex_fin rfl
def F_Sc_takeBack_106 (x1 : Int32) (S : Sto) : Option (Int32 × Sto) := some (x1, (si S 31 x1))
set_option maxRecDepth 100000 in
theorem X_Sc_takeBack_106 {nL : Nat} {xs : Nat → Int32} {M : Sto} {O : Sto} {d : Nat} (hd : 1 ≤ d) : ∀ (x1 : Int32) (S : Sto) (r : Int32) (S' : Sto), F_Sc_takeBack_106 x1 S = some (r, S') → EX nL xs 0 MI_120 d 106 [some (.ref 27), some (.int x1)] [] (S, M, O) (.inl (some (.int r))) (S', M, O) := by
  intro x1 S r S' hF
  unfold F_Sc_takeBack_106 at hF
  refine Ex_go 4 (pc' := 112) (L' := [some (.ref 27), some (.int x1)]) (st' := [.int x1]) (σ' := ((si S 31 x1), M, O)) (rfl) ?_
  cases hF
  exact Ex_fin rfl
def F_Sc_takeBack (S : Sto) : Option (Int32 × Sto) := if ((gi S 31) - (1 : Int32)) < 0 then some ((-1 : Int32), S) else if ((gi S 31) - (1 : Int32)) < (40 : Int32) then ck (ib ((gi S 31) - (1 : Int32)) 40) (if (ai S 28 (Int32.toNatClampNeg ((gi S 31) - (1 : Int32)))) = 0 then ck (ib ((gi S 31) - (1 : Int32)) 40) (ck (ib ((gi S 31) - (1 : Int32)) 40) (F_Sc_takeBack_106 ((gi S 31) - (1 : Int32)) (sl (sl S 26 (al S 29 (Int32.toNatClampNeg ((gi S 31) - (1 : Int32))))) 27 (al (sl S 26 (al S 29 (Int32.toNatClampNeg ((gi S 31) - (1 : Int32))))) 30 (Int32.toNatClampNeg ((gi S 31) - (1 : Int32))))))) else ck (ib ((gi S 31) - (1 : Int32)) 40) (if (ai S 28 (Int32.toNatClampNeg ((gi S 31) - (1 : Int32)))) = (1 : Int32) then ck (ib ((gi S 31) - (1 : Int32)) 40) (F_Sc_takeBack_106 ((gi S 31) - (1 : Int32)) (si S 28 (Int64.toInt32 (al S 29 (Int32.toNatClampNeg ((gi S 31) - (1 : Int32))))))) else ck (ib ((gi S 31) - (1 : Int32)) 40) (if (ai S 28 (Int32.toNatClampNeg ((gi S 31) - (1 : Int32)))) = (2 : Int32) then ck (ib ((gi S 31) - (1 : Int32)) 40) (ck (ib ((gi S 31) - (1 : Int32)) 40) (F_Sc_takeBack_106 ((gi S 31) - (1 : Int32)) (si (sl S 29 (al S 29 (Int32.toNatClampNeg ((gi S 31) - (1 : Int32))))) 30 (Int64.toInt32 (al (sl S 29 (al S 29 (Int32.toNatClampNeg ((gi S 31) - (1 : Int32))))) 30 (Int32.toNatClampNeg ((gi S 31) - (1 : Int32)))))))) else F_Sc_takeBack_106 ((gi S 31) - (1 : Int32)) S))) else some ((-1 : Int32), S)
set_option maxRecDepth 100000 in
theorem X_Sc_takeBack {nL : Nat} {xs : Nat → Int32} {M : Sto} {O : Sto} {d : Nat} (hd : 1 ≤ d) : ∀ (S : Sto) (r : Int32) (S' : Sto), F_Sc_takeBack S = some (r, S') → EX nL xs 0 MI_120 d 0 [some (.ref 27), none] [] (S, M, O) (.inl (some (.int r))) (S', M, O) := by
  intro S r S' hF
  unfold F_Sc_takeBack at hF
  refine Ex_go 7 (pc' := if ((gi S 31) - (1 : Int32)) < 0 then 17 else 11) (L' := [some (.ref 27), some (.int ((gi S 31) - (1 : Int32)))]) (st' := []) (σ' := (S, M, O)) (rfl) ?_
  refine Ex_br (fun hc => ?_) (fun hc => ?_)
  · rw [if_pos hc] at hF
    refine Ex_go 1 (pc' := 18) (L' := [some (.ref 27), some (.int ((gi S 31) - (1 : Int32)))]) (st' := [.int (-1 : Int32)]) (σ' := (S, M, O)) (rfl) ?_
    cases hF
    exact Ex_fin rfl
  · rw [if_neg hc] at hF
    refine Ex_go 3 (pc' := if ((gi S 31) - (1 : Int32)) < (40 : Int32) then 19 else 17) (L' := [some (.ref 27), some (.int ((gi S 31) - (1 : Int32)))]) (st' := []) (σ' := (S, M, O)) (rfl) ?_
    refine Ex_br (fun hc => ?_) (fun hc => ?_)
    · rw [if_pos hc] at hF
      refine Ex_go 3 (pc' := 24) (L' := [some (.ref 27), some (.int ((gi S 31) - (1 : Int32)))]) (st' := [.int ((gi S 31) - (1 : Int32)), .ref 28]) (σ' := (S, M, O)) (rfl) ?_
      obtain ⟨hc1, hF⟩ := ck_i hF
      refine Ex_chk (b := ib ((gi S 31) - (1 : Int32)) 40) (pc' := 25) (L' := [some (.ref 27), some (.int ((gi S 31) - (1 : Int32)))]) (st' := [.int (ai S 28 (Int32.toNatClampNeg ((gi S 31) - (1 : Int32))))]) (σ' := (S, M, O)) rfl hc1 ?_
      refine Ex_go 1 (pc' := if ¬ (ai S 28 (Int32.toNatClampNeg ((gi S 31) - (1 : Int32)))) = 0 then 51 else 28) (L' := [some (.ref 27), some (.int ((gi S 31) - (1 : Int32)))]) (st' := []) (σ' := (S, M, O)) (rfl) ?_
      refine Ex_brN (fun hc => ?_) (fun hc => ?_)
      · rw [if_pos hc] at hF
        refine Ex_go 4 (pc' := 34) (L' := [some (.ref 27), some (.int ((gi S 31) - (1 : Int32)))]) (st' := [.int ((gi S 31) - (1 : Int32)), .ref 29, .ref 27]) (σ' := (S, M, O)) (rfl) ?_
        obtain ⟨hc7, hF⟩ := ck_i hF
        refine Ex_chk (b := ib ((gi S 31) - (1 : Int32)) 40) (pc' := 35) (L' := [some (.ref 27), some (.int ((gi S 31) - (1 : Int32)))]) (st' := [.long (al S 29 (Int32.toNatClampNeg ((gi S 31) - (1 : Int32)))), .ref 27]) (σ' := (S, M, O)) rfl hc7 ?_
        refine Ex_go 5 (pc' := 44) (L' := [some (.ref 27), some (.int ((gi S 31) - (1 : Int32)))]) (st' := [.int ((gi S 31) - (1 : Int32)), .ref 30, .ref 27]) (σ' := ((sl S 26 (al S 29 (Int32.toNatClampNeg ((gi S 31) - (1 : Int32))))), M, O)) (rfl) ?_
        obtain ⟨hc8, hF⟩ := ck_i hF
        refine Ex_chk (b := ib ((gi S 31) - (1 : Int32)) 40) (pc' := 45) (L' := [some (.ref 27), some (.int ((gi S 31) - (1 : Int32)))]) (st' := [.long (al (sl S 26 (al S 29 (Int32.toNatClampNeg ((gi S 31) - (1 : Int32))))) 30 (Int32.toNatClampNeg ((gi S 31) - (1 : Int32)))), .ref 27]) (σ' := ((sl S 26 (al S 29 (Int32.toNatClampNeg ((gi S 31) - (1 : Int32))))), M, O)) rfl hc8 ?_
        refine Ex_go 2 (pc' := 106) (L' := [some (.ref 27), some (.int ((gi S 31) - (1 : Int32)))]) (st' := []) (σ' := ((sl (sl S 26 (al S 29 (Int32.toNatClampNeg ((gi S 31) - (1 : Int32))))) 27 (al (sl S 26 (al S 29 (Int32.toNatClampNeg ((gi S 31) - (1 : Int32))))) 30 (Int32.toNatClampNeg ((gi S 31) - (1 : Int32))))), M, O)) (rfl) ?_
        exact Ex_mono (L := [some (.ref 27), some (.int ((gi S 31) - (1 : Int32)))]) (Le_s (Le_s (Le_0))) (X_Sc_takeBack_106 hd _ _ _ _ hF) (Nat.le_refl _) (by omega)
      · rw [if_neg hc] at hF
        refine Ex_go 3 (pc' := 56) (L' := [some (.ref 27), some (.int ((gi S 31) - (1 : Int32)))]) (st' := [.int ((gi S 31) - (1 : Int32)), .ref 28]) (σ' := (S, M, O)) (rfl) ?_
        obtain ⟨hc2, hF⟩ := ck_i hF
        refine Ex_chk (b := ib ((gi S 31) - (1 : Int32)) 40) (pc' := 57) (L' := [some (.ref 27), some (.int ((gi S 31) - (1 : Int32)))]) (st' := [.int (ai S 28 (Int32.toNatClampNeg ((gi S 31) - (1 : Int32))))]) (σ' := (S, M, O)) rfl hc2 ?_
        refine Ex_go 2 (pc' := if ¬ (ai S 28 (Int32.toNatClampNeg ((gi S 31) - (1 : Int32)))) = (1 : Int32) then 75 else 61) (L' := [some (.ref 27), some (.int ((gi S 31) - (1 : Int32)))]) (st' := []) (σ' := (S, M, O)) (rfl) ?_
        refine Ex_brN (fun hc => ?_) (fun hc => ?_)
        · rw [if_pos hc] at hF
          refine Ex_go 4 (pc' := 67) (L' := [some (.ref 27), some (.int ((gi S 31) - (1 : Int32)))]) (st' := [.int ((gi S 31) - (1 : Int32)), .ref 29, .ref 27]) (σ' := (S, M, O)) (rfl) ?_
          obtain ⟨hc6, hF⟩ := ck_i hF
          refine Ex_chk (b := ib ((gi S 31) - (1 : Int32)) 40) (pc' := 68) (L' := [some (.ref 27), some (.int ((gi S 31) - (1 : Int32)))]) (st' := [.long (al S 29 (Int32.toNatClampNeg ((gi S 31) - (1 : Int32)))), .ref 27]) (σ' := (S, M, O)) rfl hc6 ?_
          refine Ex_go 3 (pc' := 106) (L' := [some (.ref 27), some (.int ((gi S 31) - (1 : Int32)))]) (st' := []) (σ' := ((si S 28 (Int64.toInt32 (al S 29 (Int32.toNatClampNeg ((gi S 31) - (1 : Int32)))))), M, O)) (rfl) ?_
          exact Ex_mono (L := [some (.ref 27), some (.int ((gi S 31) - (1 : Int32)))]) (Le_s (Le_s (Le_0))) (X_Sc_takeBack_106 hd _ _ _ _ hF) (Nat.le_refl _) (by omega)
        · rw [if_neg hc] at hF
          refine Ex_go 3 (pc' := 80) (L' := [some (.ref 27), some (.int ((gi S 31) - (1 : Int32)))]) (st' := [.int ((gi S 31) - (1 : Int32)), .ref 28]) (σ' := (S, M, O)) (rfl) ?_
          obtain ⟨hc3, hF⟩ := ck_i hF
          refine Ex_chk (b := ib ((gi S 31) - (1 : Int32)) 40) (pc' := 81) (L' := [some (.ref 27), some (.int ((gi S 31) - (1 : Int32)))]) (st' := [.int (ai S 28 (Int32.toNatClampNeg ((gi S 31) - (1 : Int32))))]) (σ' := (S, M, O)) rfl hc3 ?_
          refine Ex_go 2 (pc' := if ¬ (ai S 28 (Int32.toNatClampNeg ((gi S 31) - (1 : Int32)))) = (2 : Int32) then 106 else 85) (L' := [some (.ref 27), some (.int ((gi S 31) - (1 : Int32)))]) (st' := []) (σ' := (S, M, O)) (rfl) ?_
          refine Ex_brN (fun hc => ?_) (fun hc => ?_)
          · rw [if_pos hc] at hF
            refine Ex_go 4 (pc' := 91) (L' := [some (.ref 27), some (.int ((gi S 31) - (1 : Int32)))]) (st' := [.int ((gi S 31) - (1 : Int32)), .ref 29, .ref 27]) (σ' := (S, M, O)) (rfl) ?_
            obtain ⟨hc4, hF⟩ := ck_i hF
            refine Ex_chk (b := ib ((gi S 31) - (1 : Int32)) 40) (pc' := 92) (L' := [some (.ref 27), some (.int ((gi S 31) - (1 : Int32)))]) (st' := [.long (al S 29 (Int32.toNatClampNeg ((gi S 31) - (1 : Int32)))), .ref 27]) (σ' := (S, M, O)) rfl hc4 ?_
            refine Ex_go 5 (pc' := 101) (L' := [some (.ref 27), some (.int ((gi S 31) - (1 : Int32)))]) (st' := [.int ((gi S 31) - (1 : Int32)), .ref 30, .ref 27]) (σ' := ((sl S 29 (al S 29 (Int32.toNatClampNeg ((gi S 31) - (1 : Int32))))), M, O)) (rfl) ?_
            obtain ⟨hc5, hF⟩ := ck_i hF
            refine Ex_chk (b := ib ((gi S 31) - (1 : Int32)) 40) (pc' := 102) (L' := [some (.ref 27), some (.int ((gi S 31) - (1 : Int32)))]) (st' := [.long (al (sl S 29 (al S 29 (Int32.toNatClampNeg ((gi S 31) - (1 : Int32))))) 30 (Int32.toNatClampNeg ((gi S 31) - (1 : Int32)))), .ref 27]) (σ' := ((sl S 29 (al S 29 (Int32.toNatClampNeg ((gi S 31) - (1 : Int32))))), M, O)) rfl hc5 ?_
            refine Ex_go 2 (pc' := 106) (L' := [some (.ref 27), some (.int ((gi S 31) - (1 : Int32)))]) (st' := []) (σ' := ((si (sl S 29 (al S 29 (Int32.toNatClampNeg ((gi S 31) - (1 : Int32))))) 30 (Int64.toInt32 (al (sl S 29 (al S 29 (Int32.toNatClampNeg ((gi S 31) - (1 : Int32))))) 30 (Int32.toNatClampNeg ((gi S 31) - (1 : Int32)))))), M, O)) (rfl) ?_
            exact Ex_mono (L := [some (.ref 27), some (.int ((gi S 31) - (1 : Int32)))]) (Le_s (Le_s (Le_0))) (X_Sc_takeBack_106 hd _ _ _ _ hF) (Nat.le_refl _) (by omega)
          · rw [if_neg hc] at hF
            exact Ex_mono (L := [some (.ref 27), some (.int ((gi S 31) - (1 : Int32)))]) (Le_s (Le_s (Le_0))) (X_Sc_takeBack_106 hd _ _ _ _ hF) (Nat.le_refl _) (by omega)
    · rw [if_neg hc] at hF
      refine Ex_go 1 (pc' := 18) (L' := [some (.ref 27), some (.int ((gi S 31) - (1 : Int32)))]) (st' := [.int (-1 : Int32)]) (σ' := (S, M, O)) (rfl) ?_
      cases hF
      exact Ex_fin rfl
