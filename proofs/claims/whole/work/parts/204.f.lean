/-! ===== what the methods do, as functions, and that the small machine does it (printed by wip/whole/gen4.py) ===== -/
def F_w_figures_10 : Option (Int64 ⊕ Nat) := some (.inr 1)
set_option maxRecDepth 100000 in
theorem X_w_figures_10 {nL : Nat} {xs : Nat → Int32} {S : Sto} {M : Sto} {O : Sto} {d : Nat} (hd : 8 ≤ d) : ∀ (r : Int64 ⊕ Nat), F_w_figures_10 = some r → EX nL xs 1 MI_239 d 10 [none, none, none, none, none] [] (S, M, O) (rsJ r) (S, M, O) := by
  intro r hF
  unfold F_w_figures_10 at hF
  cases hF
  exact Ex_thr rfl (by omega) (Nat.le_refl _)
def F_w_figures (x1 : Int64) (x3 : Int32) (x4 : Int32) : Option (Int64 ⊕ Nat) := if x3 < 0 then F_w_figures_10 else if x3 ≤ (9 : Int32) then b1 (F_w_isLicence x1) (fun r1 => if r1 = 0 then some (.inr 0) else if x4 = 0 then b1 (F_Li_beginning x1 x3) (fun r3 => some (.inl r3)) else b1 (F_Li_without x1 x3) (fun r5 => some (.inl (x1 - r5)))) else F_w_figures_10
set_option maxRecDepth 100000 in
theorem X_w_figures {nL : Nat} {xs : Nat → Int32} {S : Sto} {M : Sto} {O : Sto} {d : Nat} (hd : 8 ≤ d) : ∀ (x1 : Int64) (x3 : Int32) (x4 : Int32) (r : Int64 ⊕ Nat), F_w_figures x1 x3 x4 = some r → EX nL xs 1 MI_239 d 0 [some (.ref 0), some (.long x1), none, some (.int x3), some (.int x4)] [] (S, M, O) (rsJ r) (S, M, O) := by
  intro x1 x3 x4 r hF
  unfold F_w_figures at hF
  refine Ex_go 2 (pc' := if x3 < 0 then 10 else 4) (L' := [some (.ref 0), some (.long x1), none, some (.int x3), some (.int x4)]) (st' := []) (σ' := (S, M, O)) (rfl) ?_
  refine Ex_br (fun hc => ?_) (fun hc => ?_)
  · rw [if_pos hc] at hF
    exact Ex_mono (L := [none, none, none, none, none]) (Le_n (Le_n (Le_n (Le_n (Le_n (Le_0)))))) (X_w_figures_10 hd _ hF) (Nat.le_refl _) (by omega)
  · rw [if_neg hc] at hF
    refine Ex_go 3 (pc' := if x3 ≤ (9 : Int32) then 18 else 10) (L' := [some (.ref 0), some (.long x1), none, some (.int x3), some (.int x4)]) (st' := []) (σ' := (S, M, O)) (rfl) ?_
    refine Ex_br (fun hc => ?_) (fun hc => ?_)
    · rw [if_pos hc] at hF
      refine Ex_go 1 (pc' := 19) (L' := [some (.ref 0), some (.long x1), none, some (.int x3), some (.int x4)]) (st' := [.long x1]) (σ' := (S, M, O)) (rfl) ?_
      obtain ⟨r1, hx2, hF⟩ := b1_i hF
      refine Ex_callK (K1 := 0) (K2 := 1) (kind := 0) (y := 227) (as := [.long x1]) (rest := []) (L0 := [some (.long x1), none]) (d' := 1) (v := some (.int r1)) (σ1 := (S, M, O)) rfl rfl mt_227 rfl rfl (by omega) (X_w_isLicence (Nat.le_refl _) _ _ hx2) (Ex_st (st2 := [.int r1]) rfl ?_) (by omega)
      refine Ex_go 1 (pc' := if ¬ r1 = 0 then 33 else 25) (L' := [some (.ref 0), some (.long x1), none, some (.int x3), some (.int x4)]) (st' := []) (σ' := (S, M, O)) (rfl) ?_
      refine Ex_brN (fun hc => ?_) (fun hc => ?_)
      · rw [if_pos hc] at hF
        cases hF
        exact Ex_thr rfl (by omega) (Nat.le_refl _)
      · rw [if_neg hc] at hF
        refine Ex_go 2 (pc' := if x4 = 0 then 48 else 38) (L' := [some (.ref 0), some (.long x1), none, some (.int x3), some (.int x4)]) (st' := []) (σ' := (S, M, O)) (rfl) ?_
        refine Ex_br (fun hc => ?_) (fun hc => ?_)
        · rw [if_pos hc] at hF
          refine Ex_go 2 (pc' := 50) (L' := [some (.ref 0), some (.long x1), none, some (.int x3), some (.int x4)]) (st' := [.int x3, .long x1]) (σ' := (S, M, O)) (rfl) ?_
          obtain ⟨r3, hx4, hF⟩ := b1_i hF
          refine Ex_callK (K1 := 0) (K2 := 1) (kind := 0) (y := 238) (as := [.long x1, .int x3]) (rest := []) (L0 := [some (.long x1), none, some (.int x3), none, none, none, none, none, none]) (d' := 6) (v := some (.long r3)) (σ1 := (S, M, O)) rfl rfl mt_238 rfl rfl (by omega) (X_Li_beginning (Nat.le_refl _) _ _ _ hx4) (Ex_st (st2 := [.long r3]) rfl ?_) (by omega)
          cases hF
          exact Ex_fin rfl
        · rw [if_neg hc] at hF
          refine Ex_go 3 (pc' := 41) (L' := [some (.ref 0), some (.long x1), none, some (.int x3), some (.int x4)]) (st' := [.int x3, .long x1, .long x1]) (σ' := (S, M, O)) (rfl) ?_
          obtain ⟨r5, hx6, hF⟩ := b1_i hF
          refine Ex_callK (K1 := 0) (K2 := 1) (kind := 0) (y := 237) (as := [.long x1, .int x3]) (rest := [.long x1]) (L0 := [some (.long x1), none, some (.int x3), none, none, none, none, none, none, none]) (d' := 1) (v := some (.long r5)) (σ1 := (S, M, O)) rfl rfl mt_237 rfl rfl (by omega) (X_Li_without (Nat.le_refl _) _ _ _ hx6) (Ex_st (st2 := [.long r5, .long x1]) rfl ?_) (by omega)
          refine Ex_go 2 (pc' := 53) (L' := [some (.ref 0), some (.long x1), none, some (.int x3), some (.int x4)]) (st' := [.long (x1 - r5)]) (σ' := (S, M, O)) (rfl) ?_
          cases hF
          exact Ex_fin rfl
    · rw [if_neg hc] at hF
      exact Ex_mono (L := [none, none, none, none, none]) (Le_n (Le_n (Le_n (Le_n (Le_n (Le_0)))))) (X_w_figures_10 hd _ hF) (Nat.le_refl _) (by omega)
def F_l_figures (x1 : Int64) (x3 : Int32) (x4 : Int32) (O : Sto) : Option (Int32 × Sto) := b1 (F_w_figures x1 x3 x4) (fun r1 => su r1 (fun v3 => some ((0 : Int32), (ul O 2000 (vp_updL (al O 2000) (Int32.toNatClampNeg (0 : Int32)) v3)))) (fun z4 => if z4 = 0 then some ((2 : Int32), O) else (if z4 = 1 then some ((1 : Int32), O) else (none))))
set_option maxRecDepth 100000 in
theorem X_l_figures {nL : Nat} {xs : Nat → Int32} {S : Sto} {M : Sto} {d : Nat} (hd : 9 ≤ d) : ∀ (x1 : Int64) (x3 : Int32) (x4 : Int32) (O : Sto) (r : Int32) (O' : Sto), F_l_figures x1 x3 x4 O = some (r, O') → EX nL xs 1 MI_240 d 0 [some (.ref 0), some (.long x1), none, some (.int x3), some (.int x4), some (.ref 2000), none] [] (S, M, O) (.inl (some (.int r))) (S, M, O') := by
  intro x1 x3 x4 O r O' hF
  unfold F_l_figures at hF
  refine Ex_go 6 (pc' := 8) (L' := [some (.ref 0), some (.long x1), none, some (.int x3), some (.int x4), some (.ref 2000), none]) (st' := [.int x4, .int x3, .long x1, .ref 0, .int (0 : Int32), .ref 2000]) (σ' := (S, M, O)) (rfl) ?_
  obtain ⟨r1, hx2, hF⟩ := b1_i hF
  cases r1 with
  | inl v3 =>
    rw [su_l] at hF
    refine Ex_callK (K1 := 1) (K2 := 0) (kind := 3) (y := 239) (as := [.ref 0, .long x1, .int x3, .int x4]) (rest := [.int (0 : Int32), .ref 2000]) (L0 := [some (.ref 0), some (.long x1), none, some (.int x3), some (.int x4)]) (d' := 8) (v := some (.long v3)) (σ1 := (S, M, O)) rfl rfl mt_239 rfl rfl (by omega) (X_w_figures (Nat.le_refl _) _ _ _ _ hx2) (Ex_st (st2 := [.long v3, .int (0 : Int32), .ref 2000]) rfl ?_) (by omega)
    refine Ex_chk (b := ib (0 : Int32) 1) (pc' := 12) (L' := [some (.ref 0), some (.long x1), none, some (.int x3), some (.int x4), some (.ref 2000), none]) (st' := []) (σ' := (S, M, (ul O 2000 (vp_updL (al O 2000) (Int32.toNatClampNeg (0 : Int32)) v3)))) rfl (by decide) ?_
    refine Ex_go 2 (pc' := 24) (L' := [some (.ref 0), some (.long x1), none, some (.int x3), some (.int x4), some (.ref 2000), none]) (st' := [.int (0 : Int32)]) (σ' := (S, M, (ul O 2000 (vp_updL (al O 2000) (Int32.toNatClampNeg (0 : Int32)) v3)))) (rfl) ?_
    cases hF
    exact Ex_fin rfl
  | inr z4 =>
    by_cases hz0 : z4 = 0
    · have hF : (if z4 = 0 then _ else _) = _ := hF
      rw [if_pos hz0] at hF
      subst hz0
      refine Ex_callX (K1 := 1) (K2 := 0) (y := 239) (as := [.ref 0, .long x1, .int x3, .int x4]) (rest := [.int (0 : Int32), .ref 2000]) (L0 := [some (.ref 0), some (.long x1), none, some (.int x3), some (.int x4)]) (d' := 8) (σ1 := (S, M, O)) (x := 0) (pc' := 21) (i := 6) rfl rfl mt_239 rfl rfl (by omega) (X_w_figures (Nat.le_refl _) _ _ _ _ hx2) rfl (Ex_L (L2 := [some (.ref 0), some (.long x1), none, some (.int x3), some (.int x4), some (.ref 2000), none]) rfl ?_) (by omega)
      refine Ex_go 1 (pc' := 22) (L' := [some (.ref 0), some (.long x1), none, some (.int x3), some (.int x4), some (.ref 2000), none]) (st' := [.int (2 : Int32)]) (σ' := (S, M, O)) (rfl) ?_
      cases hF
      exact Ex_fin rfl
    have hF : (if z4 = 0 then _ else _) = _ := hF
    rw [if_neg hz0] at hF
    by_cases hz1 : z4 = 1
    · have hF : (if z4 = 1 then _ else _) = _ := hF
      rw [if_pos hz1] at hF
      subst hz1
      refine Ex_callX (K1 := 1) (K2 := 0) (y := 239) (as := [.ref 0, .long x1, .int x3, .int x4]) (rest := [.int (0 : Int32), .ref 2000]) (L0 := [some (.ref 0), some (.long x1), none, some (.int x3), some (.int x4)]) (d' := 8) (σ1 := (S, M, O)) (x := 1) (pc' := 17) (i := 6) rfl rfl mt_239 rfl rfl (by omega) (X_w_figures (Nat.le_refl _) _ _ _ _ hx2) rfl (Ex_L (L2 := [some (.ref 0), some (.long x1), none, some (.int x3), some (.int x4), some (.ref 2000), none]) rfl ?_) (by omega)
      refine Ex_go 1 (pc' := 18) (L' := [some (.ref 0), some (.long x1), none, some (.int x3), some (.int x4), some (.ref 2000), none]) (st' := [.int (1 : Int32)]) (σ' := (S, M, O)) (rfl) ?_
      cases hF
      exact Ex_fin rfl
    have hF : (if z4 = 1 then _ else _) = _ := hF
    rw [if_neg hz1] at hF
    cases hF
def F_m_isLicence (x0 : Int64) : Option Int32 := b1 (F_m_isIn x0 (0 : Int64) (1000000000000000 : Int64)) (fun r1 => ck (b01 r1) (some r1))
set_option maxRecDepth 100000 in
theorem X_m_isLicence {nL : Nat} {xs : Nat → Int32} {S : Sto} {M : Sto} {O : Sto} {d : Nat} (hd : 2 ≤ d) : ∀ (x0 : Int64) (r : Int32), F_m_isLicence x0 = some r → EX nL xs 0 MI_233 d 0 [some (.long x0), none] [] (S, M, O) (.inl (some (.int r))) (S, M, O) := by
  intro x0 r hF
  unfold F_m_isLicence at hF
  refine Ex_go 3 (pc' := 5) (L' := [some (.long x0), none]) (st' := [.long (1000000000000000 : Int64), .long (0 : Int64), .long x0]) (σ' := (S, M, O)) (rfl) ?_
  obtain ⟨r1, hx2, hF⟩ := b1_i hF
  refine Ex_call (kind := 0) (y := 91) (as := [.long x0, .long (0 : Int64), .long (1000000000000000 : Int64)]) (rest := []) (L0 := [some (.long x0), none, some (.long (0 : Int64)), none, some (.long (1000000000000000 : Int64)), none]) (d' := 1) (v := some (.int r1)) (σ1 := (S, M, O)) rfl rfl mt_91 rfl rfl (by omega) (X_m_isIn (Nat.le_refl _) _ _ _ _ hx2) (Ex_st (st2 := [.int r1]) rfl ?_)
  obtain ⟨hc3, hF⟩ := ck_i hF
  cases hF
  exact Ex_finZ (by exact rfl) hc3
def F_m_tellFigures_7 : Nat → Int64 → Sto → Option (Unit × Sto)
  | 0, _, _ => none
  | n + 1, x3, M => if x3 ≤ (0 : Int64) then some ((), M) else ck (ib (gi M 1028) 17) (F_m_tellFigures_7 n (x3 / (10 : Int64)) (si (ui M 1024 (upd (ai M 1024) (Int32.toNatClampNeg (gi M 1028)) (Int64.toInt32 (x3 - x3 / (10 : Int64) * (10 : Int64))))) 1028 ((gi (ui M 1024 (upd (ai M 1024) (Int32.toNatClampNeg (gi M 1028)) (Int64.toInt32 (x3 - x3 / (10 : Int64) * (10 : Int64))))) 1028) + (1 : Int32))))
set_option maxRecDepth 100000 in
theorem X_m_tellFigures_7 {nL : Nat} {xs : Nat → Int32} {S : Sto} {O : Sto} {d : Nat} (hd : 1 ≤ d) : ∀ n : Nat, ∀ (x3 : Int64) (M : Sto) (r : Unit) (M' : Sto), F_m_tellFigures_7 n x3 M = some (r, M') → EX nL xs 0 MI_234 d 7 [some (.ref 1000), none, none, some (.long x3), none] [] (S, M, O) (.inl none) (S, M', O) := by
  intro n
  induction n with
  | zero => intro x3 M r M' hF; cases hF
  | succ n ih =>
  intro x3 M r M' hF
  unfold F_m_tellFigures_7 at hF
  refine Ex_go 4 (pc' := if (lg_cmp x3 (0 : Int64)) ≤ 0 then 47 else 13) (L' := [some (.ref 1000), none, none, some (.long x3), none]) (st' := []) (σ' := (S, M, O)) (rfl) ?_
  refine Ex_brI lc_le (fun hc => ?_) (fun hc => ?_)
  · rw [if_pos hc] at hF
    cases hF
    exact Ex_fin rfl
  · rw [if_neg hc] at hF
    refine Ex_go 6 (pc' := 25) (L' := [some (.ref 1000), none, none, some (.long x3), none]) (st' := [.long (10 : Int64), .long x3, .int (gi M 1028), .ref 1024]) (σ' := (S, M, O)) (rfl) ?_
    refine Ex_chk (b := nzL (10 : Int64)) (pc' := 26) (L' := [some (.ref 1000), none, none, some (.long x3), none]) (st' := [.long (x3 - x3 / (10 : Int64) * (10 : Int64)), .int (gi M 1028), .ref 1024]) (σ' := (S, M, O)) rfl (by decide) ?_
    refine Ex_go 1 (pc' := 27) (L' := [some (.ref 1000), none, none, some (.long x3), none]) (st' := [.int (Int64.toInt32 (x3 - x3 / (10 : Int64) * (10 : Int64))), .int (gi M 1028), .ref 1024]) (σ' := (S, M, O)) (rfl) ?_
    obtain ⟨hc1, hF⟩ := ck_i hF
    refine Ex_chk (b := ib (gi M 1028) 17) (pc' := 28) (L' := [some (.ref 1000), none, none, some (.long x3), none]) (st' := []) (σ' := (S, (ui M 1024 (upd (ai M 1024) (Int32.toNatClampNeg (gi M 1028)) (Int64.toInt32 (x3 - x3 / (10 : Int64) * (10 : Int64))))), O)) rfl hc1 ?_
    refine Ex_go 8 (pc' := 42) (L' := [some (.ref 1000), none, none, some (.long x3), none]) (st' := [.long (10 : Int64), .long x3]) (σ' := (S, (si (ui M 1024 (upd (ai M 1024) (Int32.toNatClampNeg (gi M 1028)) (Int64.toInt32 (x3 - x3 / (10 : Int64) * (10 : Int64))))) 1028 ((gi (ui M 1024 (upd (ai M 1024) (Int32.toNatClampNeg (gi M 1028)) (Int64.toInt32 (x3 - x3 / (10 : Int64) * (10 : Int64))))) 1028) + (1 : Int32))), O)) (rfl) ?_
    refine Ex_chk (b := nzL (10 : Int64)) (pc' := 43) (L' := [some (.ref 1000), none, none, some (.long x3), none]) (st' := [.long (x3 / (10 : Int64))]) (σ' := (S, (si (ui M 1024 (upd (ai M 1024) (Int32.toNatClampNeg (gi M 1028)) (Int64.toInt32 (x3 - x3 / (10 : Int64) * (10 : Int64))))) 1028 ((gi (ui M 1024 (upd (ai M 1024) (Int32.toNatClampNeg (gi M 1028)) (Int64.toInt32 (x3 - x3 / (10 : Int64) * (10 : Int64))))) 1028) + (1 : Int32))), O)) rfl (by decide) ?_
    refine Ex_go 2 (pc' := 7) (L' := [some (.ref 1000), none, none, some (.long (x3 / (10 : Int64))), none]) (st' := []) (σ' := (S, (si (ui M 1024 (upd (ai M 1024) (Int32.toNatClampNeg (gi M 1028)) (Int64.toInt32 (x3 - x3 / (10 : Int64) * (10 : Int64))))) 1028 ((gi (ui M 1024 (upd (ai M 1024) (Int32.toNatClampNeg (gi M 1028)) (Int64.toInt32 (x3 - x3 / (10 : Int64) * (10 : Int64))))) 1028) + (1 : Int32))), O)) (rfl) ?_
    exact Ex_mono (L := [some (.ref 1000), none, none, some (.long (x3 / (10 : Int64))), none]) (Le_s (Le_n (Le_n (Le_s (Le_n (Le_0)))))) (ih _ _ _ _ hF) (Nat.le_refl _) (by omega)
def F_m_tellFigures (x1 : Int64) (M : Sto) : Option (Unit × Sto) := F_m_tellFigures_7 FU x1 (si M 1028 (0 : Int32))
set_option maxRecDepth 100000 in
theorem X_m_tellFigures {nL : Nat} {xs : Nat → Int32} {S : Sto} {O : Sto} {d : Nat} (hd : 1 ≤ d) : ∀ (x1 : Int64) (M : Sto) (r : Unit) (M' : Sto), F_m_tellFigures x1 M = some (r, M') → EX nL xs 0 MI_234 d 0 [some (.ref 1000), some (.long x1), none, none, none] [] (S, M, O) (.inl none) (S, M', O) := by
  intro x1 M r M' hF
  unfold F_m_tellFigures at hF
  refine Ex_go 5 (pc' := 7) (L' := [some (.ref 1000), some (.long x1), none, some (.long x1), none]) (st' := []) (σ' := (S, (si M 1028 (0 : Int32)), O)) (rfl) ?_
  exact Ex_mono (L := [some (.ref 1000), none, none, some (.long x1), none]) (Le_s (Le_n (Le_n (Le_s (Le_n (Le_0)))))) (X_m_tellFigures_7 hd FU _ _ _ _ hF) (Nat.le_refl _) (by omega)
def F_m_without_38 (k14 : Int32 → Int64 → Int64 → Int32 → Sto → Option (Int64 × Sto)) (x3 : Int32) (x6 : Int64) (x8 : Int32) (s0 : Int64) (s1 : Int64) (s2 : Int32) (M : Sto) : Option (Int64 × Sto) := k14 x3 (s0 + (s1 * (Int32.toInt64 s2))) (x6 * (9 : Int64)) (x8 + (1 : Int32)) M
set_option maxRecDepth 100000 in
theorem X_m_without_38 {nL : Nat} {xs : Nat → Int32} {S : Sto} {O : Sto} {d : Nat} (hd : 2 ≤ d) {k14 : Int32 → Int64 → Int64 → Int32 → Sto → Option (Int64 × Sto)} (hk14 : ∀ (x3 : Int32) (x4 : Int64) (x6 : Int64) (x8 : Int32) (M : Sto) (r : Int64) (M' : Sto), k14 x3 x4 x6 x8 M = some (r, M') → EX nL xs 0 MI_241 d 14 [some (.ref 1000), none, none, some (.int x3), some (.long x4), none, some (.long x6), none, some (.int x8), none, none] [] (S, M, O) (.inl (some (.long r))) (S, M', O)) : ∀ (x3 : Int32) (x6 : Int64) (x8 : Int32) (s0 : Int64) (s1 : Int64) (s2 : Int32) (M : Sto) (r : Int64) (M' : Sto), F_m_without_38 k14 x3 x6 x8 s0 s1 s2 M = some (r, M') → EX nL xs 0 MI_241 d 38 [some (.ref 1000), none, none, some (.int x3), none, none, some (.long x6), none, some (.int x8), none, none] [.int s2, .long s1, .long s0] (S, M, O) (.inl (some (.long r))) (S, M', O) := by
  intro x3 x6 x8 s0 s1 s2 M r M' hF
  unfold F_m_without_38 at hF
  refine Ex_go 10 (pc' := 14) (L' := [some (.ref 1000), none, none, some (.int x3), some (.long (s0 + (s1 * (Int32.toInt64 s2)))), none, some (.long (x6 * (9 : Int64))), none, some (.int (x8 + (1 : Int32))), none, none]) (st' := []) (σ' := (S, M, O)) (rfl) ?_
  exact Ex_mono (L := [some (.ref 1000), none, none, some (.int x3), some (.long (s0 + (s1 * (Int32.toInt64 s2)))), none, some (.long (x6 * (9 : Int64))), none, some (.int (x8 + (1 : Int32))), none, none]) (Le_s (Le_n (Le_n (Le_s (Le_s (Le_n (Le_s (Le_n (Le_s (Le_n (Le_n (Le_0)))))))))))) (hk14 _ _ _ _ _ _ _ hF) (Nat.le_refl _) (by omega)
def F_m_without_118 (k65 : Int32 → Int64 → Int64 → Int32 → Sto → Option (Int64 × Sto)) (k92 : Int32 → Int64 → Int64 → Int32 → Int32 → Sto → Option (Int64 × Sto)) (x3 : Int32) (x6 : Int64) (x8 : Int32) (x10 : Int32) (s0 : Int64) (s1 : Int64) (M : Sto) : Option (Int64 × Sto) := k92 x3 (s0 + s1) x6 x8 (x10 + (1 : Int32)) M
set_option maxRecDepth 100000 in
theorem X_m_without_118 {nL : Nat} {xs : Nat → Int32} {S : Sto} {O : Sto} {d : Nat} (hd : 2 ≤ d) {k65 : Int32 → Int64 → Int64 → Int32 → Sto → Option (Int64 × Sto)} {k92 : Int32 → Int64 → Int64 → Int32 → Int32 → Sto → Option (Int64 × Sto)} (hk65 : ∀ (x3 : Int32) (x4 : Int64) (x6 : Int64) (x8 : Int32) (M : Sto) (r : Int64) (M' : Sto), k65 x3 x4 x6 x8 M = some (r, M') → EX nL xs 0 MI_241 d 65 [some (.ref 1000), none, none, some (.int x3), some (.long x4), none, some (.long x6), none, some (.int x8), none, none] [] (S, M, O) (.inl (some (.long r))) (S, M', O)) (hk92 : ∀ (x3 : Int32) (x4 : Int64) (x6 : Int64) (x8 : Int32) (x10 : Int32) (M : Sto) (r : Int64) (M' : Sto), k92 x3 x4 x6 x8 x10 M = some (r, M') → EX nL xs 0 MI_241 d 92 [some (.ref 1000), none, none, some (.int x3), some (.long x4), none, some (.long x6), none, some (.int x8), none, some (.int x10)] [] (S, M, O) (.inl (some (.long r))) (S, M', O)) : ∀ (x3 : Int32) (x6 : Int64) (x8 : Int32) (x10 : Int32) (s0 : Int64) (s1 : Int64) (M : Sto) (r : Int64) (M' : Sto), F_m_without_118 k65 k92 x3 x6 x8 x10 s0 s1 M = some (r, M') → EX nL xs 0 MI_241 d 118 [some (.ref 1000), none, none, some (.int x3), none, none, some (.long x6), none, some (.int x8), none, some (.int x10)] [.long s1, .long s0] (S, M, O) (.inl (some (.long r))) (S, M', O) := by
  intro x3 x6 x8 x10 s0 s1 M r M' hF
  unfold F_m_without_118 at hF
  refine Ex_go 4 (pc' := 92) (L' := [some (.ref 1000), none, none, some (.int x3), some (.long (s0 + s1)), none, some (.long x6), none, some (.int x8), none, some (.int (x10 + (1 : Int32)))]) (st' := []) (σ' := (S, M, O)) (rfl) ?_
  exact Ex_mono (L := [some (.ref 1000), none, none, some (.int x3), some (.long (s0 + s1)), none, some (.long x6), none, some (.int x8), none, some (.int (x10 + (1 : Int32)))]) (Le_s (Le_n (Le_n (Le_s (Le_s (Le_n (Le_s (Le_n (Le_s (Le_n (Le_s (Le_0)))))))))))) (hk92 _ _ _ _ _ _ _ _ hF) (Nat.le_refl _) (by omega)
def F_m_without_92 (k65 : Int32 → Int64 → Int64 → Int32 → Sto → Option (Int64 × Sto)) : Nat → Int32 → Int64 → Int64 → Int32 → Int32 → Sto → Option (Int64 × Sto)
  | 0, _, _, _, _, _, _ => none
  | n + 1, x3, x4, x6, x8, x10, M => ck (ib x8 17) (if (ai M 1024 (Int32.toNatClampNeg x8)) ≤ x10 then ck (ib x8 17) (if (ai M 1024 (Int32.toNatClampNeg x8)) = x3 then some (x4, M) else k65 x3 x4 (x6 / (9 : Int64)) (x8 + (-1 : Int32)) M) else if x10 = x3 then F_m_without_118 k65 (F_m_without_92 k65 n) x3 x6 x8 x10 x4 (0 : Int64) M else F_m_without_118 k65 (F_m_without_92 k65 n) x3 x6 x8 x10 x4 x6 M)
set_option maxRecDepth 100000 in
theorem X_m_without_92 {nL : Nat} {xs : Nat → Int32} {S : Sto} {O : Sto} {d : Nat} (hd : 2 ≤ d) {k65 : Int32 → Int64 → Int64 → Int32 → Sto → Option (Int64 × Sto)} (hk65 : ∀ (x3 : Int32) (x4 : Int64) (x6 : Int64) (x8 : Int32) (M : Sto) (r : Int64) (M' : Sto), k65 x3 x4 x6 x8 M = some (r, M') → EX nL xs 0 MI_241 d 65 [some (.ref 1000), none, none, some (.int x3), some (.long x4), none, some (.long x6), none, some (.int x8), none, none] [] (S, M, O) (.inl (some (.long r))) (S, M', O)) : ∀ n : Nat, ∀ (x3 : Int32) (x4 : Int64) (x6 : Int64) (x8 : Int32) (x10 : Int32) (M : Sto) (r : Int64) (M' : Sto), F_m_without_92 k65 n x3 x4 x6 x8 x10 M = some (r, M') → EX nL xs 0 MI_241 d 92 [some (.ref 1000), none, none, some (.int x3), some (.long x4), none, some (.long x6), none, some (.int x8), none, some (.int x10)] [] (S, M, O) (.inl (some (.long r))) (S, M', O) := by
  intro n
  induction n with
  | zero => intro x3 x4 x6 x8 x10 M r M' hF; cases hF
  | succ n ih =>
  intro x3 x4 x6 x8 x10 M r M' hF
  unfold F_m_without_92 at hF
  refine Ex_go 4 (pc' := 100) (L' := [some (.ref 1000), none, none, some (.int x3), some (.long x4), none, some (.long x6), none, some (.int x8), none, some (.int x10)]) (st' := [.int x8, .ref 1024, .int x10]) (σ' := (S, M, O)) (rfl) ?_
  obtain ⟨hc1, hF⟩ := ck_i hF
  refine Ex_chk (b := ib x8 17) (pc' := 101) (L' := [some (.ref 1000), none, none, some (.int x3), some (.long x4), none, some (.long x6), none, some (.int x8), none, some (.int x10)]) (st' := [.int (ai M 1024 (Int32.toNatClampNeg x8)), .int x10]) (σ' := (S, M, O)) rfl hc1 ?_
  refine Ex_go 1 (pc' := if (ai M 1024 (Int32.toNatClampNeg x8)) ≤ x10 then 127 else 104) (L' := [some (.ref 1000), none, none, some (.int x3), some (.long x4), none, some (.long x6), none, some (.int x8), none, some (.int x10)]) (st' := []) (σ' := (S, M, O)) (rfl) ?_
  refine Ex_br (fun hc => ?_) (fun hc => ?_)
  · rw [if_pos hc] at hF
    refine Ex_go 3 (pc' := 133) (L' := [some (.ref 1000), none, none, some (.int x3), some (.long x4), none, some (.long x6), none, some (.int x8), none, some (.int x10)]) (st' := [.int x8, .ref 1024]) (σ' := (S, M, O)) (rfl) ?_
    obtain ⟨hc2, hF⟩ := ck_i hF
    refine Ex_chk (b := ib x8 17) (pc' := 134) (L' := [some (.ref 1000), none, none, some (.int x3), some (.long x4), none, some (.long x6), none, some (.int x8), none, some (.int x10)]) (st' := [.int (ai M 1024 (Int32.toNatClampNeg x8))]) (σ' := (S, M, O)) rfl hc2 ?_
    refine Ex_go 2 (pc' := if ¬ (ai M 1024 (Int32.toNatClampNeg x8)) = x3 then 141 else 138) (L' := [some (.ref 1000), none, none, some (.int x3), some (.long x4), none, some (.long x6), none, some (.int x8), none, some (.int x10)]) (st' := []) (σ' := (S, M, O)) (rfl) ?_
    refine Ex_brN (fun hc => ?_) (fun hc => ?_)
    · rw [if_pos hc] at hF
      refine Ex_go 1 (pc' := 140) (L' := [some (.ref 1000), none, none, some (.int x3), some (.long x4), none, some (.long x6), none, some (.int x8), none, some (.int x10)]) (st' := [.long x4]) (σ' := (S, M, O)) (rfl) ?_
      cases hF
      exact Ex_fin rfl
    · rw [if_neg hc] at hF
      refine Ex_go 2 (pc' := 146) (L' := [some (.ref 1000), none, none, some (.int x3), some (.long x4), none, some (.long x6), none, some (.int x8), none, some (.int x10)]) (st' := [.long (9 : Int64), .long x6]) (σ' := (S, M, O)) (rfl) ?_
      refine Ex_chk (b := nzL (9 : Int64)) (pc' := 147) (L' := [some (.ref 1000), none, none, some (.int x3), some (.long x4), none, some (.long x6), none, some (.int x8), none, some (.int x10)]) (st' := [.long (x6 / (9 : Int64))]) (σ' := (S, M, O)) rfl (by decide) ?_
      refine Ex_go 3 (pc' := 65) (L' := [some (.ref 1000), none, none, some (.int x3), some (.long x4), none, some (.long (x6 / (9 : Int64))), none, some (.int (x8 + (-1 : Int32))), none, some (.int x10)]) (st' := []) (σ' := (S, M, O)) (rfl) ?_
      exact Ex_mono (L := [some (.ref 1000), none, none, some (.int x3), some (.long x4), none, some (.long (x6 / (9 : Int64))), none, some (.int (x8 + (-1 : Int32))), none, none]) (Le_s (Le_n (Le_n (Le_s (Le_s (Le_n (Le_s (Le_n (Le_s (Le_n (Le_n (Le_0)))))))))))) (hk65 _ _ _ _ _ _ _ hF) (Nat.le_refl _) (by omega)
  · rw [if_neg hc] at hF
    refine Ex_go 4 (pc' := if ¬ x10 = x3 then 116 else 112) (L' := [some (.ref 1000), none, none, some (.int x3), some (.long x4), none, some (.long x6), none, some (.int x8), none, some (.int x10)]) (st' := [.long x4]) (σ' := (S, M, O)) (rfl) ?_
    refine Ex_brN (fun hc => ?_) (fun hc => ?_)
    · rw [if_pos hc] at hF
      refine Ex_go 2 (pc' := 118) (L' := [some (.ref 1000), none, none, some (.int x3), some (.long x4), none, some (.long x6), none, some (.int x8), none, some (.int x10)]) (st' := [.long (0 : Int64), .long x4]) (σ' := (S, M, O)) (rfl) ?_
      exact Ex_mono (L := [some (.ref 1000), none, none, some (.int x3), none, none, some (.long x6), none, some (.int x8), none, some (.int x10)]) (Le_s (Le_n (Le_n (Le_s (Le_n (Le_n (Le_s (Le_n (Le_s (Le_n (Le_s (Le_0)))))))))))) (X_m_without_118 hd hk65 ih _ _ _ _ _ _ _ _ _ hF) (Nat.le_refl _) (by omega)
    · rw [if_neg hc] at hF
      refine Ex_go 1 (pc' := 118) (L' := [some (.ref 1000), none, none, some (.int x3), some (.long x4), none, some (.long x6), none, some (.int x8), none, some (.int x10)]) (st' := [.long x6, .long x4]) (σ' := (S, M, O)) (rfl) ?_
      exact Ex_mono (L := [some (.ref 1000), none, none, some (.int x3), none, none, some (.long x6), none, some (.int x8), none, some (.int x10)]) (Le_s (Le_n (Le_n (Le_s (Le_n (Le_n (Le_s (Le_n (Le_s (Le_n (Le_s (Le_0)))))))))))) (X_m_without_118 hd hk65 ih _ _ _ _ _ _ _ _ _ hF) (Nat.le_refl _) (by omega)
def F_m_without_86 (k65 : Int32 → Int64 → Int64 → Int32 → Sto → Option (Int64 × Sto)) (x3 : Int32) (x4 : Int64) (x6 : Int64) (x8 : Int32) (s0 : Int32) (M : Sto) : Option (Int64 × Sto) := F_m_without_92 k65 FU x3 x4 x6 x8 s0 M
set_option maxRecDepth 100000 in
theorem X_m_without_86 {nL : Nat} {xs : Nat → Int32} {S : Sto} {O : Sto} {d : Nat} (hd : 2 ≤ d) {k65 : Int32 → Int64 → Int64 → Int32 → Sto → Option (Int64 × Sto)} (hk65 : ∀ (x3 : Int32) (x4 : Int64) (x6 : Int64) (x8 : Int32) (M : Sto) (r : Int64) (M' : Sto), k65 x3 x4 x6 x8 M = some (r, M') → EX nL xs 0 MI_241 d 65 [some (.ref 1000), none, none, some (.int x3), some (.long x4), none, some (.long x6), none, some (.int x8), none, none] [] (S, M, O) (.inl (some (.long r))) (S, M', O)) : ∀ (x3 : Int32) (x4 : Int64) (x6 : Int64) (x8 : Int32) (s0 : Int32) (M : Sto) (r : Int64) (M' : Sto), F_m_without_86 k65 x3 x4 x6 x8 s0 M = some (r, M') → EX nL xs 0 MI_241 d 86 [some (.ref 1000), none, none, some (.int x3), some (.long x4), none, some (.long x6), none, some (.int x8), none, none] [.int s0] (S, M, O) (.inl (some (.long r))) (S, M', O) := by
  intro x3 x4 x6 x8 s0 M r M' hF
  unfold F_m_without_86 at hF
  refine Ex_go 3 (pc' := 92) (L' := [some (.ref 1000), none, none, some (.int x3), some (.long x4), none, some (.long x6), none, some (.int x8), some (.int s0), some (.int s0)]) (st' := []) (σ' := (S, M, O)) (rfl) ?_
  exact Ex_mono (L := [some (.ref 1000), none, none, some (.int x3), some (.long x4), none, some (.long x6), none, some (.int x8), none, some (.int s0)]) (Le_s (Le_n (Le_n (Le_s (Le_s (Le_n (Le_s (Le_n (Le_s (Le_n (Le_s (Le_0)))))))))))) (X_m_without_92 hd hk65 FU _ _ _ _ _ _ _ _ hF) (Nat.le_refl _) (by omega)
def F_m_without_65 : Nat → Int32 → Int64 → Int64 → Int32 → Sto → Option (Int64 × Sto)
  | 0, _, _, _, _, _ => none
  | n + 1, x3, x4, x6, x8, M => if x8 < 0 then some ((x4 + (1 : Int64)), M) else if x8 = ((gi M 1028) - (1 : Int32)) then F_m_without_86 (F_m_without_65 n) x3 x4 x6 x8 (1 : Int32) M else F_m_without_86 (F_m_without_65 n) x3 x4 x6 x8 (0 : Int32) M
set_option maxRecDepth 100000 in
theorem X_m_without_65 {nL : Nat} {xs : Nat → Int32} {S : Sto} {O : Sto} {d : Nat} (hd : 2 ≤ d) : ∀ n : Nat, ∀ (x3 : Int32) (x4 : Int64) (x6 : Int64) (x8 : Int32) (M : Sto) (r : Int64) (M' : Sto), F_m_without_65 n x3 x4 x6 x8 M = some (r, M') → EX nL xs 0 MI_241 d 65 [some (.ref 1000), none, none, some (.int x3), some (.long x4), none, some (.long x6), none, some (.int x8), none, none] [] (S, M, O) (.inl (some (.long r))) (S, M', O) := by
  intro n
  induction n with
  | zero => intro x3 x4 x6 x8 M r M' hF; cases hF
  | succ n ih =>
  intro x3 x4 x6 x8 M r M' hF
  unfold F_m_without_65 at hF
  refine Ex_go 2 (pc' := if x8 < 0 then 155 else 70) (L' := [some (.ref 1000), none, none, some (.int x3), some (.long x4), none, some (.long x6), none, some (.int x8), none, none]) (st' := []) (σ' := (S, M, O)) (rfl) ?_
  refine Ex_br (fun hc => ?_) (fun hc => ?_)
  · rw [if_pos hc] at hF
    refine Ex_go 3 (pc' := 159) (L' := [some (.ref 1000), none, none, some (.int x3), some (.long x4), none, some (.long x6), none, some (.int x8), none, none]) (st' := [.long (x4 + (1 : Int64))]) (σ' := (S, M, O)) (rfl) ?_
    cases hF
    exact Ex_fin rfl
  · rw [if_neg hc] at hF
    refine Ex_go 6 (pc' := if ¬ x8 = ((gi M 1028) - (1 : Int32)) then 85 else 81) (L' := [some (.ref 1000), none, none, some (.int x3), some (.long x4), none, some (.long x6), none, some (.int x8), none, none]) (st' := []) (σ' := (S, M, O)) (rfl) ?_
    refine Ex_brN (fun hc => ?_) (fun hc => ?_)
    · rw [if_pos hc] at hF
      refine Ex_go 2 (pc' := 86) (L' := [some (.ref 1000), none, none, some (.int x3), some (.long x4), none, some (.long x6), none, some (.int x8), none, none]) (st' := [.int (1 : Int32)]) (σ' := (S, M, O)) (rfl) ?_
      exact Ex_mono (L := [some (.ref 1000), none, none, some (.int x3), some (.long x4), none, some (.long x6), none, some (.int x8), none, none]) (Le_s (Le_n (Le_n (Le_s (Le_s (Le_n (Le_s (Le_n (Le_s (Le_n (Le_n (Le_0)))))))))))) (X_m_without_86 hd ih _ _ _ _ _ _ _ _ hF) (Nat.le_refl _) (by omega)
    · rw [if_neg hc] at hF
      refine Ex_go 1 (pc' := 86) (L' := [some (.ref 1000), none, none, some (.int x3), some (.long x4), none, some (.long x6), none, some (.int x8), none, none]) (st' := [.int (0 : Int32)]) (σ' := (S, M, O)) (rfl) ?_
      exact Ex_mono (L := [some (.ref 1000), none, none, some (.int x3), some (.long x4), none, some (.long x6), none, some (.int x8), none, none]) (Le_s (Le_n (Le_n (Le_s (Le_s (Le_n (Le_s (Le_n (Le_s (Le_n (Le_n (Le_0)))))))))))) (X_m_without_86 hd ih _ _ _ _ _ _ _ _ hF) (Nat.le_refl _) (by omega)
def F_m_without_14 : Nat → Int32 → Int64 → Int64 → Int32 → Sto → Option (Int64 × Sto)
  | 0, _, _, _, _, _ => none
  | n + 1, x3, x4, x6, x8, M => if (gi M 1028) ≤ x8 then F_m_without_65 FU x3 x4 x6 ((gi M 1028) - (1 : Int32)) M else if x3 = 0 then F_m_without_38 (F_m_without_14 n) x3 x6 x8 x4 x6 (9 : Int32) M else F_m_without_38 (F_m_without_14 n) x3 x6 x8 x4 x6 (8 : Int32) M
set_option maxRecDepth 100000 in
theorem X_m_without_14 {nL : Nat} {xs : Nat → Int32} {S : Sto} {O : Sto} {d : Nat} (hd : 2 ≤ d) : ∀ n : Nat, ∀ (x3 : Int32) (x4 : Int64) (x6 : Int64) (x8 : Int32) (M : Sto) (r : Int64) (M' : Sto), F_m_without_14 n x3 x4 x6 x8 M = some (r, M') → EX nL xs 0 MI_241 d 14 [some (.ref 1000), none, none, some (.int x3), some (.long x4), none, some (.long x6), none, some (.int x8), none, none] [] (S, M, O) (.inl (some (.long r))) (S, M', O) := by
  intro n
  induction n with
  | zero => intro x3 x4 x6 x8 M r M' hF; cases hF
  | succ n ih =>
  intro x3 x4 x6 x8 M r M' hF
  unfold F_m_without_14 at hF
  refine Ex_go 4 (pc' := if (gi M 1028) ≤ x8 then 57 else 23) (L' := [some (.ref 1000), none, none, some (.int x3), some (.long x4), none, some (.long x6), none, some (.int x8), none, none]) (st' := []) (σ' := (S, M, O)) (rfl) ?_
  refine Ex_br (fun hc => ?_) (fun hc => ?_)
  · rw [if_pos hc] at hF
    refine Ex_go 5 (pc' := 65) (L' := [some (.ref 1000), none, none, some (.int x3), some (.long x4), none, some (.long x6), none, some (.int ((gi M 1028) - (1 : Int32))), none, none]) (st' := []) (σ' := (S, M, O)) (rfl) ?_
    exact Ex_mono (L := [some (.ref 1000), none, none, some (.int x3), some (.long x4), none, some (.long x6), none, some (.int ((gi M 1028) - (1 : Int32))), none, none]) (Le_s (Le_n (Le_n (Le_s (Le_s (Le_n (Le_s (Le_n (Le_s (Le_n (Le_n (Le_0)))))))))))) (X_m_without_65 hd FU _ _ _ _ _ _ _ hF) (Nat.le_refl _) (by omega)
  · rw [if_neg hc] at hF
    refine Ex_go 4 (pc' := if ¬ x3 = 0 then 36 else 31) (L' := [some (.ref 1000), none, none, some (.int x3), some (.long x4), none, some (.long x6), none, some (.int x8), none, none]) (st' := [.long x6, .long x4]) (σ' := (S, M, O)) (rfl) ?_
    refine Ex_brN (fun hc => ?_) (fun hc => ?_)
    · rw [if_pos hc] at hF
      refine Ex_go 2 (pc' := 38) (L' := [some (.ref 1000), none, none, some (.int x3), some (.long x4), none, some (.long x6), none, some (.int x8), none, none]) (st' := [.int (9 : Int32), .long x6, .long x4]) (σ' := (S, M, O)) (rfl) ?_
      exact Ex_mono (L := [some (.ref 1000), none, none, some (.int x3), none, none, some (.long x6), none, some (.int x8), none, none]) (Le_s (Le_n (Le_n (Le_s (Le_n (Le_n (Le_s (Le_n (Le_s (Le_n (Le_n (Le_0)))))))))))) (X_m_without_38 hd ih _ _ _ _ _ _ _ _ _ hF) (Nat.le_refl _) (by omega)
    · rw [if_neg hc] at hF
      refine Ex_go 1 (pc' := 38) (L' := [some (.ref 1000), none, none, some (.int x3), some (.long x4), none, some (.long x6), none, some (.int x8), none, none]) (st' := [.int (8 : Int32), .long x6, .long x4]) (σ' := (S, M, O)) (rfl) ?_
      exact Ex_mono (L := [some (.ref 1000), none, none, some (.int x3), none, none, some (.long x6), none, some (.int x8), none, none]) (Le_s (Le_n (Le_n (Le_s (Le_n (Le_n (Le_s (Le_n (Le_s (Le_n (Le_n (Le_0)))))))))))) (X_m_without_38 hd ih _ _ _ _ _ _ _ _ _ hF) (Nat.le_refl _) (by omega)
def F_m_without (x1 : Int64) (x3 : Int32) (M : Sto) : Option (Int64 × Sto) := b2 (F_m_tellFigures x1 M) (fun r1 M3 => F_m_without_14 FU x3 (0 : Int64) (1 : Int64) (1 : Int32) M3)
set_option maxRecDepth 100000 in
theorem X_m_without {nL : Nat} {xs : Nat → Int32} {S : Sto} {O : Sto} {d : Nat} (hd : 2 ≤ d) : ∀ (x1 : Int64) (x3 : Int32) (M : Sto) (r : Int64) (M' : Sto), F_m_without x1 x3 M = some (r, M') → EX nL xs 0 MI_241 d 0 [some (.ref 1000), some (.long x1), none, some (.int x3), none, none, none, none, none, none, none] [] (S, M, O) (.inl (some (.long r))) (S, M', O) := by
  intro x1 x3 M r M' hF
  unfold F_m_without at hF
  refine Ex_go 2 (pc' := 2) (L' := [some (.ref 1000), some (.long x1), none, some (.int x3), none, none, none, none, none, none, none]) (st' := [.long x1, .ref 1000]) (σ' := (S, M, O)) (rfl) ?_
  obtain ⟨r1, M3, hx2, hF⟩ := b2_i hF
  refine Ex_call (kind := 2) (y := 234) (as := [.ref 1000, .long x1]) (rest := []) (L0 := [some (.ref 1000), some (.long x1), none, none, none]) (d' := 1) (v := none) (σ1 := (S, M3, O)) rfl rfl mt_234 rfl rfl (by omega) (X_m_tellFigures (Nat.le_refl _) _ _ _ _ hx2) (Ex_st (st2 := []) rfl ?_)
  refine Ex_go 6 (pc' := 14) (L' := [some (.ref 1000), some (.long x1), none, some (.int x3), some (.long (0 : Int64)), none, some (.long (1 : Int64)), none, some (.int (1 : Int32)), none, none]) (st' := []) (σ' := (S, M3, O)) (rfl) ?_
  exact Ex_mono (L := [some (.ref 1000), none, none, some (.int x3), some (.long (0 : Int64)), none, some (.long (1 : Int64)), none, some (.int (1 : Int32)), none, none]) (Le_s (Le_n (Le_n (Le_s (Le_s (Le_n (Le_s (Le_n (Le_s (Le_n (Le_n (Le_0)))))))))))) (X_m_without_14 hd FU _ _ _ _ _ _ _ hF) (Nat.le_refl _) (by omega)
def F_m_figures (x1 : Int64) (x3 : Int32) (x4 : Int32) (M : Sto) : Option (Int64 × Sto) := b1 (F_m_isIn (Int32.toInt64 x3) (0 : Int64) (9 : Int64)) (fun r1 => if r1 = 0 then b2 (F_m_fail (1 : Int32) (si M 1001 (0 : Int32))) (fun r13 M15 => some ((Int32.toInt64 r13), M15)) else b1 (F_m_isLicence x1) (fun r3 => if r3 = 0 then b2 (F_m_fail (2 : Int32) (si M 1001 (0 : Int32))) (fun r10 M12 => some ((Int32.toInt64 r10), M12)) else if x1 = (0 : Int64) then some ((0 : Int64), (si M 1001 (0 : Int32))) else if x4 = 0 then if x3 = 0 then some ((0 : Int64), (si M 1001 (0 : Int32))) else b1 (F_m_firstBy x1 x3) (fun r5 => some (r5, (si M 1001 (0 : Int32)))) else b2 (F_m_without x1 x3 (si M 1001 (0 : Int32))) (fun r7 M9 => some ((x1 - r7), M9))))
set_option maxRecDepth 100000 in
theorem X_m_figures {nL : Nat} {xs : Nat → Int32} {S : Sto} {O : Sto} {d : Nat} (hd : 7 ≤ d) : ∀ (x1 : Int64) (x3 : Int32) (x4 : Int32) (M : Sto) (r : Int64) (M' : Sto), F_m_figures x1 x3 x4 M = some (r, M') → EX nL xs 0 MI_243 d 0 [some (.ref 1000), some (.long x1), none, some (.int x3), some (.int x4)] [] (S, M, O) (.inl (some (.long r))) (S, M', O) := by
  intro x1 x3 x4 M r M' hF
  unfold F_m_figures at hF
  refine Ex_go 7 (pc' := 11) (L' := [some (.ref 1000), some (.long x1), none, some (.int x3), some (.int x4)]) (st' := [.long (9 : Int64), .long (0 : Int64), .long (Int32.toInt64 x3)]) (σ' := (S, (si M 1001 (0 : Int32)), O)) (rfl) ?_
  obtain ⟨r1, hx2, hF⟩ := b1_i hF
  refine Ex_call (kind := 0) (y := 91) (as := [.long (Int32.toInt64 x3), .long (0 : Int64), .long (9 : Int64)]) (rest := []) (L0 := [some (.long (Int32.toInt64 x3)), none, some (.long (0 : Int64)), none, some (.long (9 : Int64)), none]) (d' := 1) (v := some (.int r1)) (σ1 := (S, (si M 1001 (0 : Int32)), O)) rfl rfl mt_91 rfl rfl (by omega) (X_m_isIn (Nat.le_refl _) _ _ _ _ hx2) (Ex_st (st2 := [.int r1]) rfl ?_)
  refine Ex_go 1 (pc' := if ¬ r1 = 0 then 24 else 17) (L' := [some (.ref 1000), some (.long x1), none, some (.int x3), some (.int x4)]) (st' := []) (σ' := (S, (si M 1001 (0 : Int32)), O)) (rfl) ?_
  refine Ex_brN (fun hc => ?_) (fun hc => ?_)
  · rw [if_pos hc] at hF
    refine Ex_go 2 (pc' := 19) (L' := [some (.ref 1000), some (.long x1), none, some (.int x3), some (.int x4)]) (st' := [.int (1 : Int32), .ref 1000]) (σ' := (S, (si M 1001 (0 : Int32)), O)) (rfl) ?_
    obtain ⟨r13, M15, hx14, hF⟩ := b2_i hF
    refine Ex_call (kind := 2) (y := 50) (as := [.ref 1000, .int (1 : Int32)]) (rest := []) (L0 := [some (.ref 1000), some (.int (1 : Int32))]) (d' := 1) (v := some (.int r13)) (σ1 := (S, M15, O)) rfl rfl mt_50 rfl rfl (by omega) (X_m_fail (Nat.le_refl _) _ _ _ _ hx14) (Ex_st (st2 := [.int r13]) rfl ?_)
    refine Ex_go 1 (pc' := 23) (L' := [some (.ref 1000), some (.long x1), none, some (.int x3), some (.int x4)]) (st' := [.long (Int32.toInt64 r13)]) (σ' := (S, M15, O)) (rfl) ?_
    cases hF
    exact Ex_fin rfl
  · rw [if_neg hc] at hF
    refine Ex_go 1 (pc' := 25) (L' := [some (.ref 1000), some (.long x1), none, some (.int x3), some (.int x4)]) (st' := [.long x1]) (σ' := (S, (si M 1001 (0 : Int32)), O)) (rfl) ?_
    obtain ⟨r3, hx4, hF⟩ := b1_i hF
    refine Ex_call (kind := 0) (y := 233) (as := [.long x1]) (rest := []) (L0 := [some (.long x1), none]) (d' := 2) (v := some (.int r3)) (σ1 := (S, (si M 1001 (0 : Int32)), O)) rfl rfl mt_233 rfl rfl (by omega) (X_m_isLicence (Nat.le_refl _) _ _ hx4) (Ex_st (st2 := [.int r3]) rfl ?_)
    refine Ex_go 1 (pc' := if ¬ r3 = 0 then 38 else 31) (L' := [some (.ref 1000), some (.long x1), none, some (.int x3), some (.int x4)]) (st' := []) (σ' := (S, (si M 1001 (0 : Int32)), O)) (rfl) ?_
    refine Ex_brN (fun hc => ?_) (fun hc => ?_)
    · rw [if_pos hc] at hF
      refine Ex_go 2 (pc' := 33) (L' := [some (.ref 1000), some (.long x1), none, some (.int x3), some (.int x4)]) (st' := [.int (2 : Int32), .ref 1000]) (σ' := (S, (si M 1001 (0 : Int32)), O)) (rfl) ?_
      obtain ⟨r10, M12, hx11, hF⟩ := b2_i hF
      refine Ex_call (kind := 2) (y := 50) (as := [.ref 1000, .int (2 : Int32)]) (rest := []) (L0 := [some (.ref 1000), some (.int (2 : Int32))]) (d' := 1) (v := some (.int r10)) (σ1 := (S, M12, O)) rfl rfl mt_50 rfl rfl (by omega) (X_m_fail (Nat.le_refl _) _ _ _ _ hx11) (Ex_st (st2 := [.int r10]) rfl ?_)
      refine Ex_go 1 (pc' := 37) (L' := [some (.ref 1000), some (.long x1), none, some (.int x3), some (.int x4)]) (st' := [.long (Int32.toInt64 r10)]) (σ' := (S, M12, O)) (rfl) ?_
      cases hF
      exact Ex_fin rfl
    · rw [if_neg hc] at hF
      refine Ex_go 4 (pc' := if ¬ (lg_cmp x1 (0 : Int64)) = 0 then 46 else 44) (L' := [some (.ref 1000), some (.long x1), none, some (.int x3), some (.int x4)]) (st' := []) (σ' := (S, (si M 1001 (0 : Int32)), O)) (rfl) ?_
      refine Ex_brNI lc_ne (fun hc => ?_) (fun hc => ?_)
      · rw [if_pos hc] at hF
        refine Ex_go 1 (pc' := 45) (L' := [some (.ref 1000), some (.long x1), none, some (.int x3), some (.int x4)]) (st' := [.long (0 : Int64)]) (σ' := (S, (si M 1001 (0 : Int32)), O)) (rfl) ?_
        cases hF
        exact Ex_fin rfl
      · rw [if_neg hc] at hF
        refine Ex_go 2 (pc' := if x4 = 0 then 62 else 51) (L' := [some (.ref 1000), some (.long x1), none, some (.int x3), some (.int x4)]) (st' := []) (σ' := (S, (si M 1001 (0 : Int32)), O)) (rfl) ?_
        refine Ex_br (fun hc => ?_) (fun hc => ?_)
        · rw [if_pos hc] at hF
          refine Ex_go 2 (pc' := if ¬ x3 = 0 then 70 else 66) (L' := [some (.ref 1000), some (.long x1), none, some (.int x3), some (.int x4)]) (st' := []) (σ' := (S, (si M 1001 (0 : Int32)), O)) (rfl) ?_
          refine Ex_brN (fun hc => ?_) (fun hc => ?_)
          · rw [if_pos hc] at hF
            refine Ex_go 2 (pc' := 75) (L' := [some (.ref 1000), some (.long x1), none, some (.int x3), some (.int x4)]) (st' := [.long (0 : Int64)]) (σ' := (S, (si M 1001 (0 : Int32)), O)) (rfl) ?_
            cases hF
            exact Ex_fin rfl
          · rw [if_neg hc] at hF
            refine Ex_go 2 (pc' := 72) (L' := [some (.ref 1000), some (.long x1), none, some (.int x3), some (.int x4)]) (st' := [.int x3, .long x1]) (σ' := (S, (si M 1001 (0 : Int32)), O)) (rfl) ?_
            obtain ⟨r5, hx6, hF⟩ := b1_i hF
            refine Ex_call (kind := 0) (y := 242) (as := [.long x1, .int x3]) (rest := []) (L0 := [some (.long x1), none, some (.int x3), none, none, none, none]) (d' := 6) (v := some (.long r5)) (σ1 := (S, (si M 1001 (0 : Int32)), O)) rfl rfl mt_242 rfl rfl (by omega) (X_m_firstBy (Nat.le_refl _) _ _ _ hx6) (Ex_st (st2 := [.long r5]) rfl ?_)
            cases hF
            exact Ex_fin rfl
        · rw [if_neg hc] at hF
          refine Ex_go 4 (pc' := 55) (L' := [some (.ref 1000), some (.long x1), none, some (.int x3), some (.int x4)]) (st' := [.int x3, .long x1, .ref 1000, .long x1]) (σ' := (S, (si M 1001 (0 : Int32)), O)) (rfl) ?_
          obtain ⟨r7, M9, hx8, hF⟩ := b2_i hF
          refine Ex_call (kind := 2) (y := 241) (as := [.ref 1000, .long x1, .int x3]) (rest := [.long x1]) (L0 := [some (.ref 1000), some (.long x1), none, some (.int x3), none, none, none, none, none, none, none]) (d' := 2) (v := some (.long r7)) (σ1 := (S, M9, O)) rfl rfl mt_241 rfl rfl (by omega) (X_m_without (Nat.le_refl _) _ _ _ _ _ hx8) (Ex_st (st2 := [.long r7, .long x1]) rfl ?_)
          refine Ex_go 2 (pc' := 75) (L' := [some (.ref 1000), some (.long x1), none, some (.int x3), some (.int x4)]) (st' := [.long (x1 - r7)]) (σ' := (S, M9, O)) (rfl) ?_
          cases hF
          exact Ex_fin rfl
def F_Li_add (x1 : Int32) (x2 : Int32) (x3 : Int64) (S : Sto) : Option (Unit × Sto) := b1 (F_w_remainder (Int32.toInt64 x1) (Int32.toInt64 x2)) (fun r1 => if (Int64.toInt32 r1) < 0 then some ((), S) else if (50 : Int32) ≤ (Int64.toInt32 r1) then some ((), S) else ck (isLb (gr S 49)) (ck (ib (Int64.toInt32 r1) 50) (ck (isLb (gr S 49)) (ck (ib (Int64.toInt32 r1) 50) (some ((), (ul S (gr S 49) (vp_updL (al S (gr S 49)) (Int32.toNatClampNeg (Int64.toInt32 r1)) ((al S (gr S 49) (Int32.toNatClampNeg (Int64.toInt32 r1))) + x3)))))))))
set_option maxRecDepth 100000 in
theorem X_Li_add {nL : Nat} {xs : Nat → Int32} {M : Sto} {O : Sto} {d : Nat} (hd : 2 ≤ d) : ∀ (x1 : Int32) (x2 : Int32) (x3 : Int64) (S : Sto) (r : Unit) (S' : Sto), F_Li_add x1 x2 x3 S = some (r, S') → EX nL xs 0 MI_228 d 0 [some (.ref 53), some (.int x1), some (.int x2), some (.long x3), none, none] [] (S, M, O) (.inl none) (S', M, O) := by
  intro x1 x2 x3 S r S' hF
  unfold F_Li_add at hF
  refine Ex_go 4 (pc' := 4) (L' := [some (.ref 53), some (.int x1), some (.int x2), some (.long x3), none, none]) (st' := [.long (Int32.toInt64 x2), .long (Int32.toInt64 x1)]) (σ' := (S, M, O)) (rfl) ?_
  obtain ⟨r1, hx2, hF⟩ := b1_i hF
  refine Ex_call (kind := 1) (y := 41) (as := [.long (Int32.toInt64 x1), .long (Int32.toInt64 x2)]) (rest := []) (L0 := [some (.long (Int32.toInt64 x1)), none, some (.long (Int32.toInt64 x2)), none]) (d' := 1) (v := some (.long r1)) (σ1 := (S, M, O)) rfl rfl mt_41 rfl rfl (by omega) (X_w_remainder (Nat.le_refl _) _ _ _ hx2) (Ex_st (st2 := [.long r1]) rfl ?_)
  refine Ex_go 4 (pc' := if (Int64.toInt32 r1) < 0 then 33 else 15) (L' := [some (.ref 53), some (.int x1), some (.int x2), some (.long x3), none, some (.int (Int64.toInt32 r1))]) (st' := []) (σ' := (S, M, O)) (rfl) ?_
  refine Ex_br (fun hc => ?_) (fun hc => ?_)
  · rw [if_pos hc] at hF
    cases hF
    exact Ex_fin rfl
  · rw [if_neg hc] at hF
    refine Ex_go 3 (pc' := if (50 : Int32) ≤ (Int64.toInt32 r1) then 33 else 22) (L' := [some (.ref 53), some (.int x1), some (.int x2), some (.long x3), none, some (.int (Int64.toInt32 r1))]) (st' := []) (σ' := (S, M, O)) (rfl) ?_
    refine Ex_br (fun hc => ?_) (fun hc => ?_)
    · rw [if_pos hc] at hF
      cases hF
      exact Ex_fin rfl
    · rw [if_neg hc] at hF
      refine Ex_go 4 (pc' := 29) (L' := [some (.ref 53), some (.int x1), some (.int x2), some (.long x3), none, some (.int (Int64.toInt32 r1))]) (st' := [.int (Int64.toInt32 r1), .ref (gr S 49), .int (Int64.toInt32 r1), .ref (gr S 49)]) (σ' := (S, M, O)) (rfl) ?_
      obtain ⟨hl3, hF⟩ := ck_i hF
      obtain ⟨hc4, hF⟩ := ck_i hF
      refine Ex_chk (b := ib (Int64.toInt32 r1) 50) (pc' := 30) (L' := [some (.ref 53), some (.int x1), some (.int x2), some (.long x3), none, some (.int (Int64.toInt32 r1))]) (st' := [.long (al S (gr S 49) (Int32.toNatClampNeg (Int64.toInt32 r1))), .int (Int64.toInt32 r1), .ref (gr S 49)]) (σ' := (S, M, O)) (stL_ld rfl (isLb_at hl3)) hc4 ?_
      refine Ex_go 2 (pc' := 32) (L' := [some (.ref 53), some (.int x1), some (.int x2), some (.long x3), none, some (.int (Int64.toInt32 r1))]) (st' := [.long ((al S (gr S 49) (Int32.toNatClampNeg (Int64.toInt32 r1))) + x3), .int (Int64.toInt32 r1), .ref (gr S 49)]) (σ' := (S, M, O)) (rfl) ?_
      obtain ⟨hl5, hF⟩ := ck_i hF
      obtain ⟨hc6, hF⟩ := ck_i hF
      refine Ex_chk (b := ib (Int64.toInt32 r1) 50) (pc' := 33) (L' := [some (.ref 53), some (.int x1), some (.int x2), some (.long x3), none, some (.int (Int64.toInt32 r1))]) (st' := []) (σ' := ((ul S (gr S 49) (vp_updL (al S (gr S 49)) (Int32.toNatClampNeg (Int64.toInt32 r1)) ((al S (gr S 49) (Int32.toNatClampNeg (Int64.toInt32 r1))) + x3))), M, O)) (stL_st rfl (isLb_at hl5)) hc6 ?_
      cases hF
      exact Ex_fin rfl
def F_Li_lengthen_43 (k27 : Int32 → Int32 → Int32 → Int32 → Sto → Option (Unit × Sto)) : Nat → Int32 → Int32 → Int32 → Int32 → Int32 → Sto → Option (Unit × Sto)
  | 0, _, _, _, _, _, _ => none
  | n + 1, x1, x2, x3, x4, x5, S => if (10 : Int32) ≤ x5 then k27 x1 x2 x3 (x4 + (1 : Int32)) S else ck (isLb (gr S 48)) (ck (ib x4 50) (b2 (F_Li_add (x4 + x5) x1 (al S (gr S 48) (Int32.toNatClampNeg x4)) S) (fun r3 S5 => F_Li_lengthen_43 k27 n x1 x2 x3 x4 (x5 + (1 : Int32)) S5)))
set_option maxRecDepth 100000 in
theorem X_Li_lengthen_43 {nL : Nat} {xs : Nat → Int32} {M : Sto} {O : Sto} {d : Nat} (hd : 3 ≤ d) {k27 : Int32 → Int32 → Int32 → Int32 → Sto → Option (Unit × Sto)} (hk27 : ∀ (x1 : Int32) (x2 : Int32) (x3 : Int32) (x4 : Int32) (S : Sto) (r : Unit) (S' : Sto), k27 x1 x2 x3 x4 S = some (r, S') → EX nL xs 0 MI_229 d 27 [some (.ref 53), some (.int x1), some (.int x2), some (.int x3), some (.int x4), none] [] (S, M, O) (.inl none) (S', M, O)) : ∀ n : Nat, ∀ (x1 : Int32) (x2 : Int32) (x3 : Int32) (x4 : Int32) (x5 : Int32) (S : Sto) (r : Unit) (S' : Sto), F_Li_lengthen_43 k27 n x1 x2 x3 x4 x5 S = some (r, S') → EX nL xs 0 MI_229 d 43 [some (.ref 53), some (.int x1), some (.int x2), some (.int x3), some (.int x4), some (.int x5)] [] (S, M, O) (.inl none) (S', M, O) := by
  intro n
  induction n with
  | zero => intro x1 x2 x3 x4 x5 S r S' hF; cases hF
  | succ n ih =>
  intro x1 x2 x3 x4 x5 S r S' hF
  unfold F_Li_lengthen_43 at hF
  refine Ex_go 3 (pc' := if (10 : Int32) ≤ x5 then 73 else 50) (L' := [some (.ref 53), some (.int x1), some (.int x2), some (.int x3), some (.int x4), some (.int x5)]) (st' := []) (σ' := (S, M, O)) (rfl) ?_
  refine Ex_br (fun hc => ?_) (fun hc => ?_)
  · rw [if_pos hc] at hF
    refine Ex_go 2 (pc' := 27) (L' := [some (.ref 53), some (.int x1), some (.int x2), some (.int x3), some (.int (x4 + (1 : Int32))), some (.int x5)]) (st' := []) (σ' := (S, M, O)) (rfl) ?_
    exact Ex_mono (L := [some (.ref 53), some (.int x1), some (.int x2), some (.int x3), some (.int (x4 + (1 : Int32))), none]) (Le_s (Le_s (Le_s (Le_s (Le_s (Le_n (Le_0))))))) (hk27 _ _ _ _ _ _ _ hF) (Nat.le_refl _) (by omega)
  · rw [if_neg hc] at hF
    refine Ex_go 8 (pc' := 63) (L' := [some (.ref 53), some (.int x1), some (.int x2), some (.int x3), some (.int x4), some (.int x5)]) (st' := [.int x4, .ref (gr S 48), .int x1, .int (x4 + x5), .ref 53]) (σ' := (S, M, O)) (rfl) ?_
    obtain ⟨hl1, hF⟩ := ck_i hF
    obtain ⟨hc2, hF⟩ := ck_i hF
    refine Ex_chk (b := ib x4 50) (pc' := 64) (L' := [some (.ref 53), some (.int x1), some (.int x2), some (.int x3), some (.int x4), some (.int x5)]) (st' := [.long (al S (gr S 48) (Int32.toNatClampNeg x4)), .int x1, .int (x4 + x5), .ref 53]) (σ' := (S, M, O)) (stL_ld rfl (isLb_at hl1)) hc2 ?_
    obtain ⟨r3, S5, hx4, hF⟩ := b2_i hF
    refine Ex_call (kind := 2) (y := 228) (as := [.ref 53, .int (x4 + x5), .int x1, .long (al S (gr S 48) (Int32.toNatClampNeg x4))]) (rest := []) (L0 := [some (.ref 53), some (.int (x4 + x5)), some (.int x1), some (.long (al S (gr S 48) (Int32.toNatClampNeg x4))), none, none]) (d' := 2) (v := none) (σ1 := (S5, M, O)) rfl rfl mt_228 rfl rfl (by omega) (X_Li_add (Nat.le_refl _) _ _ _ _ _ _ hx4) (Ex_st (st2 := []) rfl ?_)
    refine Ex_go 2 (pc' := 43) (L' := [some (.ref 53), some (.int x1), some (.int x2), some (.int x3), some (.int x4), some (.int (x5 + (1 : Int32)))]) (st' := []) (σ' := (S5, M, O)) (rfl) ?_
    exact Ex_mono (L := [some (.ref 53), some (.int x1), some (.int x2), some (.int x3), some (.int x4), some (.int (x5 + (1 : Int32)))]) (Le_s (Le_s (Le_s (Le_s (Le_s (Le_s (Le_0))))))) (ih _ _ _ _ _ _ _ _ hF) (Nat.le_refl _) (by omega)
def F_Li_lengthen_82 : Nat → Int32 → Int32 → Int32 → Int32 → Sto → Option (Unit × Sto)
  | 0, _, _, _, _, _ => none
  | n + 1, x1, x2, x3, x4, S => if x3 ≤ x4 then some ((), (sr (sr S 48 (gr S 49)) 49 (gr S 48))) else b2 (F_Li_add (x2 + x4) x1 (1 : Int64) S) (fun r1 S3 => F_Li_lengthen_82 n x1 x2 x3 (x4 + (1 : Int32)) S3)
set_option maxRecDepth 100000 in
theorem X_Li_lengthen_82 {nL : Nat} {xs : Nat → Int32} {M : Sto} {O : Sto} {d : Nat} (hd : 3 ≤ d) : ∀ n : Nat, ∀ (x1 : Int32) (x2 : Int32) (x3 : Int32) (x4 : Int32) (S : Sto) (r : Unit) (S' : Sto), F_Li_lengthen_82 n x1 x2 x3 x4 S = some (r, S') → EX nL xs 0 MI_229 d 82 [some (.ref 53), some (.int x1), some (.int x2), some (.int x3), some (.int x4), none] [] (S, M, O) (.inl none) (S', M, O) := by
  intro n
  induction n with
  | zero => intro x1 x2 x3 x4 S r S' hF; cases hF
  | succ n ih =>
  intro x1 x2 x3 x4 S r S' hF
  unfold F_Li_lengthen_82 at hF
  refine Ex_go 3 (pc' := if x3 ≤ x4 then 104 else 88) (L' := [some (.ref 53), some (.int x1), some (.int x2), some (.int x3), some (.int x4), none]) (st' := []) (σ' := (S, M, O)) (rfl) ?_
  refine Ex_br (fun hc => ?_) (fun hc => ?_)
  · rw [if_pos hc] at hF
    refine Ex_go 10 (pc' := 124) (L' := [some (.ref 53), some (.int x1), some (.int x2), some (.int x3), some (.ref (gr S 48)), none]) (st' := []) (σ' := ((sr (sr S 48 (gr S 49)) 49 (gr S 48)), M, O)) (rfl) ?_
    cases hF
    exact Ex_fin rfl
  · rw [if_neg hc] at hF
    refine Ex_go 6 (pc' := 95) (L' := [some (.ref 53), some (.int x1), some (.int x2), some (.int x3), some (.int x4), none]) (st' := [.long (1 : Int64), .int x1, .int (x2 + x4), .ref 53]) (σ' := (S, M, O)) (rfl) ?_
    obtain ⟨r1, S3, hx2, hF⟩ := b2_i hF
    refine Ex_call (kind := 2) (y := 228) (as := [.ref 53, .int (x2 + x4), .int x1, .long (1 : Int64)]) (rest := []) (L0 := [some (.ref 53), some (.int (x2 + x4)), some (.int x1), some (.long (1 : Int64)), none, none]) (d' := 2) (v := none) (σ1 := (S3, M, O)) rfl rfl mt_228 rfl rfl (by omega) (X_Li_add (Nat.le_refl _) _ _ _ _ _ _ hx2) (Ex_st (st2 := []) rfl ?_)
    refine Ex_go 2 (pc' := 82) (L' := [some (.ref 53), some (.int x1), some (.int x2), some (.int x3), some (.int (x4 + (1 : Int32))), none]) (st' := []) (σ' := (S3, M, O)) (rfl) ?_
    exact Ex_mono (L := [some (.ref 53), some (.int x1), some (.int x2), some (.int x3), some (.int (x4 + (1 : Int32))), none]) (Le_s (Le_s (Le_s (Le_s (Le_s (Le_n (Le_0))))))) (ih _ _ _ _ _ _ _ hF) (Nat.le_refl _) (by omega)
def F_Li_lengthen_79 (x1 : Int32) (x2 : Int32) (x3 : Int32) (S : Sto) : Option (Unit × Sto) := F_Li_lengthen_82 FU x1 x2 x3 (0 : Int32) S
set_option maxRecDepth 100000 in
theorem X_Li_lengthen_79 {nL : Nat} {xs : Nat → Int32} {M : Sto} {O : Sto} {d : Nat} (hd : 3 ≤ d) : ∀ (x1 : Int32) (x2 : Int32) (x3 : Int32) (S : Sto) (r : Unit) (S' : Sto), F_Li_lengthen_79 x1 x2 x3 S = some (r, S') → EX nL xs 0 MI_229 d 79 [some (.ref 53), some (.int x1), some (.int x2), some (.int x3), none, none] [] (S, M, O) (.inl none) (S', M, O) := by
  intro x1 x2 x3 S r S' hF
  unfold F_Li_lengthen_79 at hF
  refine Ex_go 2 (pc' := 82) (L' := [some (.ref 53), some (.int x1), some (.int x2), some (.int x3), some (.int (0 : Int32)), none]) (st' := []) (σ' := (S, M, O)) (rfl) ?_
  exact Ex_mono (L := [some (.ref 53), some (.int x1), some (.int x2), some (.int x3), some (.int (0 : Int32)), none]) (Le_s (Le_s (Le_s (Le_s (Le_s (Le_n (Le_0))))))) (X_Li_lengthen_82 hd FU _ _ _ _ _ _ _ hF) (Nat.le_refl _) (by omega)
def F_Li_lengthen_27 : Nat → Int32 → Int32 → Int32 → Int32 → Sto → Option (Unit × Sto)
  | 0, _, _, _, _, _ => none
  | n + 1, x1, x2, x3, x4, S => if x1 ≤ x4 then F_Li_lengthen_79 x1 x2 x3 S else if (50 : Int32) ≤ x4 then F_Li_lengthen_79 x1 x2 x3 S else F_Li_lengthen_43 (F_Li_lengthen_27 n) FU x1 x2 x3 x4 (0 : Int32) S
set_option maxRecDepth 100000 in
theorem X_Li_lengthen_27 {nL : Nat} {xs : Nat → Int32} {M : Sto} {O : Sto} {d : Nat} (hd : 3 ≤ d) : ∀ n : Nat, ∀ (x1 : Int32) (x2 : Int32) (x3 : Int32) (x4 : Int32) (S : Sto) (r : Unit) (S' : Sto), F_Li_lengthen_27 n x1 x2 x3 x4 S = some (r, S') → EX nL xs 0 MI_229 d 27 [some (.ref 53), some (.int x1), some (.int x2), some (.int x3), some (.int x4), none] [] (S, M, O) (.inl none) (S', M, O) := by
  intro n
  induction n with
  | zero => intro x1 x2 x3 x4 S r S' hF; cases hF
  | succ n ih =>
  intro x1 x2 x3 x4 S r S' hF
  unfold F_Li_lengthen_27 at hF
  refine Ex_go 3 (pc' := if x1 ≤ x4 then 79 else 33) (L' := [some (.ref 53), some (.int x1), some (.int x2), some (.int x3), some (.int x4), none]) (st' := []) (σ' := (S, M, O)) (rfl) ?_
  refine Ex_br (fun hc => ?_) (fun hc => ?_)
  · rw [if_pos hc] at hF
    exact Ex_mono (L := [some (.ref 53), some (.int x1), some (.int x2), some (.int x3), none, none]) (Le_s (Le_s (Le_s (Le_s (Le_n (Le_n (Le_0))))))) (X_Li_lengthen_79 hd _ _ _ _ _ _ hF) (Nat.le_refl _) (by omega)
  · rw [if_neg hc] at hF
    refine Ex_go 3 (pc' := if (50 : Int32) ≤ x4 then 79 else 40) (L' := [some (.ref 53), some (.int x1), some (.int x2), some (.int x3), some (.int x4), none]) (st' := []) (σ' := (S, M, O)) (rfl) ?_
    refine Ex_br (fun hc => ?_) (fun hc => ?_)
    · rw [if_pos hc] at hF
      exact Ex_mono (L := [some (.ref 53), some (.int x1), some (.int x2), some (.int x3), none, none]) (Le_s (Le_s (Le_s (Le_s (Le_n (Le_n (Le_0))))))) (X_Li_lengthen_79 hd _ _ _ _ _ _ hF) (Nat.le_refl _) (by omega)
    · rw [if_neg hc] at hF
      refine Ex_go 2 (pc' := 43) (L' := [some (.ref 53), some (.int x1), some (.int x2), some (.int x3), some (.int x4), some (.int (0 : Int32))]) (st' := []) (σ' := (S, M, O)) (rfl) ?_
      exact Ex_mono (L := [some (.ref 53), some (.int x1), some (.int x2), some (.int x3), some (.int x4), some (.int (0 : Int32))]) (Le_s (Le_s (Le_s (Le_s (Le_s (Le_s (Le_0))))))) (X_Li_lengthen_43 hd ih FU _ _ _ _ _ _ _ _ hF) (Nat.le_refl _) (by omega)
def F_Li_lengthen_3 : Nat → Int32 → Int32 → Int32 → Int32 → Sto → Option (Unit × Sto)
  | 0, _, _, _, _, _ => none
  | n + 1, x1, x2, x3, x4, S => if (50 : Int32) ≤ x4 then F_Li_lengthen_27 FU x1 x2 x3 (0 : Int32) S else ck (isLb (gr S 49)) (ck (ib x4 50) (F_Li_lengthen_3 n x1 x2 x3 (x4 + (1 : Int32)) (ul S (gr S 49) (vp_updL (al S (gr S 49)) (Int32.toNatClampNeg x4) (0 : Int64)))))
set_option maxRecDepth 100000 in
theorem X_Li_lengthen_3 {nL : Nat} {xs : Nat → Int32} {M : Sto} {O : Sto} {d : Nat} (hd : 3 ≤ d) : ∀ n : Nat, ∀ (x1 : Int32) (x2 : Int32) (x3 : Int32) (x4 : Int32) (S : Sto) (r : Unit) (S' : Sto), F_Li_lengthen_3 n x1 x2 x3 x4 S = some (r, S') → EX nL xs 0 MI_229 d 3 [some (.ref 53), some (.int x1), some (.int x2), some (.int x3), some (.int x4), none] [] (S, M, O) (.inl none) (S', M, O) := by
  intro n
  induction n with
  | zero => intro x1 x2 x3 x4 S r S' hF; cases hF
  | succ n ih =>
  intro x1 x2 x3 x4 S r S' hF
  unfold F_Li_lengthen_3 at hF
  refine Ex_go 3 (pc' := if (50 : Int32) ≤ x4 then 24 else 10) (L' := [some (.ref 53), some (.int x1), some (.int x2), some (.int x3), some (.int x4), none]) (st' := []) (σ' := (S, M, O)) (rfl) ?_
  refine Ex_br (fun hc => ?_) (fun hc => ?_)
  · rw [if_pos hc] at hF
    refine Ex_go 2 (pc' := 27) (L' := [some (.ref 53), some (.int x1), some (.int x2), some (.int x3), some (.int (0 : Int32)), none]) (st' := []) (σ' := (S, M, O)) (rfl) ?_
    exact Ex_mono (L := [some (.ref 53), some (.int x1), some (.int x2), some (.int x3), some (.int (0 : Int32)), none]) (Le_s (Le_s (Le_s (Le_s (Le_s (Le_n (Le_0))))))) (X_Li_lengthen_27 hd FU _ _ _ _ _ _ _ hF) (Nat.le_refl _) (by omega)
  · rw [if_neg hc] at hF
    refine Ex_go 4 (pc' := 17) (L' := [some (.ref 53), some (.int x1), some (.int x2), some (.int x3), some (.int x4), none]) (st' := [.long (0 : Int64), .int x4, .ref (gr S 49)]) (σ' := (S, M, O)) (rfl) ?_
    obtain ⟨hl1, hF⟩ := ck_i hF
    obtain ⟨hc2, hF⟩ := ck_i hF
    refine Ex_chk (b := ib x4 50) (pc' := 18) (L' := [some (.ref 53), some (.int x1), some (.int x2), some (.int x3), some (.int x4), none]) (st' := []) (σ' := ((ul S (gr S 49) (vp_updL (al S (gr S 49)) (Int32.toNatClampNeg x4) (0 : Int64))), M, O)) (stL_st rfl (isLb_at hl1)) hc2 ?_
    refine Ex_go 2 (pc' := 3) (L' := [some (.ref 53), some (.int x1), some (.int x2), some (.int x3), some (.int (x4 + (1 : Int32))), none]) (st' := []) (σ' := ((ul S (gr S 49) (vp_updL (al S (gr S 49)) (Int32.toNatClampNeg x4) (0 : Int64))), M, O)) (rfl) ?_
    exact Ex_mono (L := [some (.ref 53), some (.int x1), some (.int x2), some (.int x3), some (.int (x4 + (1 : Int32))), none]) (Le_s (Le_s (Le_s (Le_s (Le_s (Le_n (Le_0))))))) (ih _ _ _ _ _ _ _ hF) (Nat.le_refl _) (by omega)
def F_Li_lengthen (x1 : Int32) (x2 : Int32) (x3 : Int32) (S : Sto) : Option (Unit × Sto) := F_Li_lengthen_3 FU x1 x2 x3 (0 : Int32) S
set_option maxRecDepth 100000 in
theorem X_Li_lengthen {nL : Nat} {xs : Nat → Int32} {M : Sto} {O : Sto} {d : Nat} (hd : 3 ≤ d) : ∀ (x1 : Int32) (x2 : Int32) (x3 : Int32) (S : Sto) (r : Unit) (S' : Sto), F_Li_lengthen x1 x2 x3 S = some (r, S') → EX nL xs 0 MI_229 d 0 [some (.ref 53), some (.int x1), some (.int x2), some (.int x3), none, none] [] (S, M, O) (.inl none) (S', M, O) := by
  intro x1 x2 x3 S r S' hF
  unfold F_Li_lengthen at hF
  refine Ex_go 2 (pc' := 3) (L' := [some (.ref 53), some (.int x1), some (.int x2), some (.int x3), some (.int (0 : Int32)), none]) (st' := []) (σ' := (S, M, O)) (rfl) ?_
  exact Ex_mono (L := [some (.ref 53), some (.int x1), some (.int x2), some (.int x3), some (.int (0 : Int32)), none]) (Le_s (Le_s (Le_s (Le_s (Le_s (Le_n (Le_0))))))) (X_Li_lengthen_3 hd FU _ _ _ _ _ _ _ hF) (Nat.le_refl _) (by omega)
def F_Li_addingUpTo_124 (x4 : Int32) (s0 : Int64) (s1 : Int64) (S : Sto) : Option (Int64 × Sto) := if x4 = 0 then some (((s0 + s1) - (1 : Int64)), S) else some ((s0 + s1), S)
set_option maxRecDepth 100000 in
theorem X_Li_addingUpTo_124 {nL : Nat} {xs : Nat → Int32} {M : Sto} {O : Sto} {d : Nat} (hd : 4 ≤ d) : ∀ (x4 : Int32) (s0 : Int64) (s1 : Int64) (S : Sto) (r : Int64) (S' : Sto), F_Li_addingUpTo_124 x4 s0 s1 S = some (r, S') → EX nL xs 0 MI_230 d 124 [none, none, none, none, some (.int x4), none, none, none, none] [.long s1, .long s0] (S, M, O) (.inl (some (.long r))) (S', M, O) := by
  intro x4 s0 s1 S r S' hF
  unfold F_Li_addingUpTo_124 at hF
  refine Ex_go 4 (pc' := if ¬ x4 = 0 then 139 else 132) (L' := [none, none, none, none, some (.int x4), none, some (.long (s0 + s1)), none, none]) (st' := []) (σ' := (S, M, O)) (rfl) ?_
  refine Ex_brN (fun hc => ?_) (fun hc => ?_)
  · rw [if_pos hc] at hF
    refine Ex_go 4 (pc' := 141) (L' := [none, none, none, none, some (.int x4), none, some (.long (s0 + s1)), none, none]) (st' := [.long ((s0 + s1) - (1 : Int64))]) (σ' := (S, M, O)) (rfl) ?_
    cases hF
    exact Ex_fin rfl
  · rw [if_neg hc] at hF
    refine Ex_go 1 (pc' := 141) (L' := [none, none, none, none, some (.int x4), none, some (.long (s0 + s1)), none, none]) (st' := [.long (s0 + s1)]) (σ' := (S, M, O)) (rfl) ?_
    cases hF
    exact Ex_fin rfl
def F_Li_addingUpTo_100 (x3 : Int32) (x4 : Int32) (x5 : Int32) (s0 : Int64) (S : Sto) : Option (Int64 × Sto) := b1 (F_w_remainder (Int32.toInt64 x5) (Int32.toInt64 x3)) (fun r1 => if r1 = (Int32.toInt64 x4) then F_Li_addingUpTo_124 x4 s0 (1 : Int64) S else F_Li_addingUpTo_124 x4 s0 (0 : Int64) S)
set_option maxRecDepth 100000 in
theorem X_Li_addingUpTo_100 {nL : Nat} {xs : Nat → Int32} {M : Sto} {O : Sto} {d : Nat} (hd : 4 ≤ d) : ∀ (x3 : Int32) (x4 : Int32) (x5 : Int32) (s0 : Int64) (S : Sto) (r : Int64) (S' : Sto), F_Li_addingUpTo_100 x3 x4 x5 s0 S = some (r, S') → EX nL xs 0 MI_230 d 100 [none, none, none, some (.int x3), some (.int x4), some (.int x5), none, none, none] [.long s0] (S, M, O) (.inl (some (.long r))) (S', M, O) := by
  intro x3 x4 x5 s0 S r S' hF
  unfold F_Li_addingUpTo_100 at hF
  refine Ex_go 6 (pc' := 109) (L' := [none, none, none, some (.int x3), some (.int x4), some (.int x5), some (.long s0), none, none]) (st' := [.long (Int32.toInt64 x3), .long (Int32.toInt64 x5), .long s0]) (σ' := (S, M, O)) (rfl) ?_
  obtain ⟨r1, hx2, hF⟩ := b1_i hF
  refine Ex_call (kind := 1) (y := 41) (as := [.long (Int32.toInt64 x5), .long (Int32.toInt64 x3)]) (rest := [.long s0]) (L0 := [some (.long (Int32.toInt64 x5)), none, some (.long (Int32.toInt64 x3)), none]) (d' := 1) (v := some (.long r1)) (σ1 := (S, M, O)) rfl rfl mt_41 rfl rfl (by omega) (X_w_remainder (Nat.le_refl _) _ _ _ hx2) (Ex_st (st2 := [.long r1, .long s0]) rfl ?_)
  refine Ex_go 4 (pc' := if ¬ (lg_cmp r1 (Int32.toInt64 x4)) = 0 then 123 else 119) (L' := [none, none, none, some (.int x3), some (.int x4), some (.int x5), some (.long s0), none, none]) (st' := [.long s0]) (σ' := (S, M, O)) (rfl) ?_
  refine Ex_brNI lc_ne (fun hc => ?_) (fun hc => ?_)
  · rw [if_pos hc] at hF
    refine Ex_go 2 (pc' := 124) (L' := [none, none, none, some (.int x3), some (.int x4), some (.int x5), some (.long s0), none, none]) (st' := [.long (1 : Int64), .long s0]) (σ' := (S, M, O)) (rfl) ?_
    exact Ex_mono (L := [none, none, none, none, some (.int x4), none, none, none, none]) (Le_n (Le_n (Le_n (Le_n (Le_s (Le_n (Le_n (Le_n (Le_n (Le_0)))))))))) (X_Li_addingUpTo_124 hd _ _ _ _ _ _ hF) (Nat.le_refl _) (by omega)
  · rw [if_neg hc] at hF
    refine Ex_go 1 (pc' := 124) (L' := [none, none, none, some (.int x3), some (.int x4), some (.int x5), some (.long s0), none, none]) (st' := [.long (0 : Int64), .long s0]) (σ' := (S, M, O)) (rfl) ?_
    exact Ex_mono (L := [none, none, none, none, some (.int x4), none, none, none, none]) (Le_n (Le_n (Le_n (Le_n (Le_s (Le_n (Le_n (Le_n (Le_n (Le_0)))))))))) (X_Li_addingUpTo_124 hd _ _ _ _ _ _ hF) (Nat.le_refl _) (by omega)
def F_Li_addingUpTo_99 (x3 : Int32) (x4 : Int32) (x5 : Int32) (S : Sto) : Option (Int64 × Sto) := F_Li_addingUpTo_100 x3 x4 x5 (0 : Int64) S
set_option maxRecDepth 100000 in
theorem X_Li_addingUpTo_99 {nL : Nat} {xs : Nat → Int32} {M : Sto} {O : Sto} {d : Nat} (hd : 4 ≤ d) : ∀ (x3 : Int32) (x4 : Int32) (x5 : Int32) (S : Sto) (r : Int64) (S' : Sto), F_Li_addingUpTo_99 x3 x4 x5 S = some (r, S') → EX nL xs 0 MI_230 d 99 [none, none, none, some (.int x3), some (.int x4), some (.int x5), none, none, none] [] (S, M, O) (.inl (some (.long r))) (S', M, O) := by
  intro x3 x4 x5 S r S' hF
  unfold F_Li_addingUpTo_99 at hF
  refine Ex_go 1 (pc' := 100) (L' := [none, none, none, some (.int x3), some (.int x4), some (.int x5), none, none, none]) (st' := [.long (0 : Int64)]) (σ' := (S, M, O)) (rfl) ?_
  exact Ex_mono (L := [none, none, none, some (.int x3), some (.int x4), some (.int x5), none, none, none]) (Le_n (Le_n (Le_n (Le_s (Le_s (Le_s (Le_n (Le_n (Le_n (Le_0)))))))))) (X_Li_addingUpTo_100 hd _ _ _ _ _ _ _ hF) (Nat.le_refl _) (by omega)
def F_Li_addingUpTo_32 : Nat → Int64 → Int32 → Int32 → Int32 → Int64 → Sto → Option (Int64 × Sto)
  | 0, _, _, _, _, _, _ => none
  | n + 1, x1, x3, x4, x5, x6, S => if x6 ≤ (0 : Int64) then if x4 < 0 then F_Li_addingUpTo_99 x3 x4 x5 S else if (50 : Int32) ≤ x4 then F_Li_addingUpTo_99 x3 x4 x5 S else ck (isLb (gr S 48)) (ck (ib x4 50) (F_Li_addingUpTo_100 x3 x4 x5 (al S (gr S 48) (Int32.toNatClampNeg x4)) S)) else ck (nzL x6) (b2 (F_Li_lengthen x3 x5 (Int64.toInt32 ((x1 / x6) - (x1 / x6) / (10 : Int64) * (10 : Int64))) S) (fun r4 S6 => nm (x5 + (Int64.toInt32 ((x1 / x6) - (x1 / x6) / (10 : Int64) * (10 : Int64)))) (fun t7 => F_Li_addingUpTo_32 n x1 x3 x4 t7 (x6 / (10 : Int64)) S6)))
set_option maxRecDepth 100000 in
theorem X_Li_addingUpTo_32 {nL : Nat} {xs : Nat → Int32} {M : Sto} {O : Sto} {d : Nat} (hd : 4 ≤ d) : ∀ n : Nat, ∀ (x1 : Int64) (x3 : Int32) (x4 : Int32) (x5 : Int32) (x6 : Int64) (S : Sto) (r : Int64) (S' : Sto), F_Li_addingUpTo_32 n x1 x3 x4 x5 x6 S = some (r, S') → EX nL xs 0 MI_230 d 32 [some (.ref 53), some (.long x1), none, some (.int x3), some (.int x4), some (.int x5), some (.long x6), none, none] [] (S, M, O) (.inl (some (.long r))) (S', M, O) := by
  intro n
  induction n with
  | zero => intro x1 x3 x4 x5 x6 S r S' hF; cases hF
  | succ n ih =>
  intro x1 x3 x4 x5 x6 S r S' hF
  unfold F_Li_addingUpTo_32 at hF
  refine Ex_go 4 (pc' := if (lg_cmp x6 (0 : Int64)) ≤ 0 then 77 else 39) (L' := [some (.ref 53), some (.long x1), none, some (.int x3), some (.int x4), some (.int x5), some (.long x6), none, none]) (st' := []) (σ' := (S, M, O)) (rfl) ?_
  refine Ex_brI lc_le (fun hc => ?_) (fun hc => ?_)
  · rw [if_pos hc] at hF
    refine Ex_go 2 (pc' := if x4 < 0 then 99 else 82) (L' := [some (.ref 53), some (.long x1), none, some (.int x3), some (.int x4), some (.int x5), some (.long x6), none, none]) (st' := []) (σ' := (S, M, O)) (rfl) ?_
    refine Ex_br (fun hc => ?_) (fun hc => ?_)
    · rw [if_pos hc] at hF
      exact Ex_mono (L := [none, none, none, some (.int x3), some (.int x4), some (.int x5), none, none, none]) (Le_n (Le_n (Le_n (Le_s (Le_s (Le_s (Le_n (Le_n (Le_n (Le_0)))))))))) (X_Li_addingUpTo_99 hd _ _ _ _ _ _ hF) (Nat.le_refl _) (by omega)
    · rw [if_neg hc] at hF
      refine Ex_go 3 (pc' := if (50 : Int32) ≤ x4 then 99 else 89) (L' := [some (.ref 53), some (.long x1), none, some (.int x3), some (.int x4), some (.int x5), some (.long x6), none, none]) (st' := []) (σ' := (S, M, O)) (rfl) ?_
      refine Ex_br (fun hc => ?_) (fun hc => ?_)
      · rw [if_pos hc] at hF
        exact Ex_mono (L := [none, none, none, some (.int x3), some (.int x4), some (.int x5), none, none, none]) (Le_n (Le_n (Le_n (Le_s (Le_s (Le_s (Le_n (Le_n (Le_n (Le_0)))))))))) (X_Li_addingUpTo_99 hd _ _ _ _ _ _ hF) (Nat.le_refl _) (by omega)
      · rw [if_neg hc] at hF
        refine Ex_go 3 (pc' := 95) (L' := [some (.ref 53), some (.long x1), none, some (.int x3), some (.int x4), some (.int x5), some (.long x6), none, none]) (st' := [.int x4, .ref (gr S 48)]) (σ' := (S, M, O)) (rfl) ?_
        obtain ⟨hl1, hF⟩ := ck_i hF
        obtain ⟨hc2, hF⟩ := ck_i hF
        refine Ex_chk (b := ib x4 50) (pc' := 96) (L' := [some (.ref 53), some (.long x1), none, some (.int x3), some (.int x4), some (.int x5), some (.long x6), none, none]) (st' := [.long (al S (gr S 48) (Int32.toNatClampNeg x4))]) (σ' := (S, M, O)) (stL_ld rfl (isLb_at hl1)) hc2 ?_
        refine Ex_go 1 (pc' := 100) (L' := [some (.ref 53), some (.long x1), none, some (.int x3), some (.int x4), some (.int x5), some (.long x6), none, none]) (st' := [.long (al S (gr S 48) (Int32.toNatClampNeg x4))]) (σ' := (S, M, O)) (rfl) ?_
        exact Ex_mono (L := [none, none, none, some (.int x3), some (.int x4), some (.int x5), none, none, none]) (Le_n (Le_n (Le_n (Le_s (Le_s (Le_s (Le_n (Le_n (Le_n (Le_0)))))))))) (X_Li_addingUpTo_100 hd _ _ _ _ _ _ _ hF) (Nat.le_refl _) (by omega)
  · rw [if_neg hc] at hF
    refine Ex_go 2 (pc' := 42) (L' := [some (.ref 53), some (.long x1), none, some (.int x3), some (.int x4), some (.int x5), some (.long x6), none, none]) (st' := [.long x6, .long x1]) (σ' := (S, M, O)) (rfl) ?_
    obtain ⟨hc3, hF⟩ := ck_i hF
    refine Ex_chk (b := nzL x6) (pc' := 43) (L' := [some (.ref 53), some (.long x1), none, some (.int x3), some (.int x4), some (.int x5), some (.long x6), none, none]) (st' := [.long (x1 / x6)]) (σ' := (S, M, O)) rfl hc3 ?_
    refine Ex_go 1 (pc' := 46) (L' := [some (.ref 53), some (.long x1), none, some (.int x3), some (.int x4), some (.int x5), some (.long x6), none, none]) (st' := [.long (10 : Int64), .long (x1 / x6)]) (σ' := (S, M, O)) (rfl) ?_
    refine Ex_chk (b := nzL (10 : Int64)) (pc' := 47) (L' := [some (.ref 53), some (.long x1), none, some (.int x3), some (.int x4), some (.int x5), some (.long x6), none, none]) (st' := [.long ((x1 / x6) - (x1 / x6) / (10 : Int64) * (10 : Int64))]) (σ' := (S, M, O)) rfl (by decide) ?_
    refine Ex_go 6 (pc' := 56) (L' := [some (.ref 53), some (.long x1), none, some (.int x3), some (.int x4), some (.int x5), some (.long x6), none, some (.int (Int64.toInt32 ((x1 / x6) - (x1 / x6) / (10 : Int64) * (10 : Int64))))]) (st' := [.int (Int64.toInt32 ((x1 / x6) - (x1 / x6) / (10 : Int64) * (10 : Int64))), .int x5, .int x3, .ref 53]) (σ' := (S, M, O)) (rfl) ?_
    obtain ⟨r4, S6, hx5, hF⟩ := b2_i hF
    refine Ex_call (kind := 2) (y := 229) (as := [.ref 53, .int x3, .int x5, .int (Int64.toInt32 ((x1 / x6) - (x1 / x6) / (10 : Int64) * (10 : Int64)))]) (rest := []) (L0 := [some (.ref 53), some (.int x3), some (.int x5), some (.int (Int64.toInt32 ((x1 / x6) - (x1 / x6) / (10 : Int64) * (10 : Int64)))), none, none]) (d' := 3) (v := none) (σ1 := (S6, M, O)) rfl rfl mt_229 rfl rfl (by omega) (X_Li_lengthen (Nat.le_refl _) _ _ _ _ _ _ hx5) (Ex_st (st2 := []) rfl ?_)
    obtain ⟨t7, ht8, hF⟩ := nm_i hF
    refine Ex_go 4 (pc' := 66) (L' := [some (.ref 53), some (.long x1), none, some (.int x3), some (.int x4), some (.int t7), some (.long x6), none, some (.int (Int64.toInt32 ((x1 / x6) - (x1 / x6) / (10 : Int64) * (10 : Int64))))]) (st' := []) (σ' := (S6, M, O)) (by rw [ht8]; rfl) ?_
    refine Ex_go 2 (pc' := 71) (L' := [some (.ref 53), some (.long x1), none, some (.int x3), some (.int x4), some (.int t7), some (.long x6), none, some (.int (Int64.toInt32 ((x1 / x6) - (x1 / x6) / (10 : Int64) * (10 : Int64))))]) (st' := [.long (10 : Int64), .long x6]) (σ' := (S6, M, O)) (rfl) ?_
    refine Ex_chk (b := nzL (10 : Int64)) (pc' := 72) (L' := [some (.ref 53), some (.long x1), none, some (.int x3), some (.int x4), some (.int t7), some (.long x6), none, some (.int (Int64.toInt32 ((x1 / x6) - (x1 / x6) / (10 : Int64) * (10 : Int64))))]) (st' := [.long (x6 / (10 : Int64))]) (σ' := (S6, M, O)) rfl (by decide) ?_
    refine Ex_go 2 (pc' := 32) (L' := [some (.ref 53), some (.long x1), none, some (.int x3), some (.int x4), some (.int t7), some (.long (x6 / (10 : Int64))), none, some (.int (Int64.toInt32 ((x1 / x6) - (x1 / x6) / (10 : Int64) * (10 : Int64))))]) (st' := []) (σ' := (S6, M, O)) (rfl) ?_
    exact Ex_mono (L := [some (.ref 53), some (.long x1), none, some (.int x3), some (.int x4), some (.int t7), some (.long (x6 / (10 : Int64))), none, none]) (Le_s (Le_s (Le_n (Le_s (Le_s (Le_s (Le_s (Le_n (Le_n (Le_0)))))))))) (ih _ _ _ _ _ _ _ _ hF) (Nat.le_refl _) (by omega)
def F_Li_addingUpTo_3 : Nat → Int64 → Int32 → Int32 → Int32 → Sto → Option (Int64 × Sto)
  | 0, _, _, _, _, _ => none
  | n + 1, x1, x3, x4, x5, S => if (50 : Int32) ≤ x5 then F_Li_addingUpTo_32 FU x1 x3 x4 (0 : Int32) (1000000000000000 : Int64) S else ck (isLb (gr S 48)) (ck (ib x5 50) (F_Li_addingUpTo_3 n x1 x3 x4 (x5 + (1 : Int32)) (ul S (gr S 48) (vp_updL (al S (gr S 48)) (Int32.toNatClampNeg x5) (0 : Int64)))))
set_option maxRecDepth 100000 in
theorem X_Li_addingUpTo_3 {nL : Nat} {xs : Nat → Int32} {M : Sto} {O : Sto} {d : Nat} (hd : 4 ≤ d) : ∀ n : Nat, ∀ (x1 : Int64) (x3 : Int32) (x4 : Int32) (x5 : Int32) (S : Sto) (r : Int64) (S' : Sto), F_Li_addingUpTo_3 n x1 x3 x4 x5 S = some (r, S') → EX nL xs 0 MI_230 d 3 [some (.ref 53), some (.long x1), none, some (.int x3), some (.int x4), some (.int x5), none, none, none] [] (S, M, O) (.inl (some (.long r))) (S', M, O) := by
  intro n
  induction n with
  | zero => intro x1 x3 x4 x5 S r S' hF; cases hF
  | succ n ih =>
  intro x1 x3 x4 x5 S r S' hF
  unfold F_Li_addingUpTo_3 at hF
  refine Ex_go 3 (pc' := if (50 : Int32) ≤ x5 then 24 else 10) (L' := [some (.ref 53), some (.long x1), none, some (.int x3), some (.int x4), some (.int x5), none, none, none]) (st' := []) (σ' := (S, M, O)) (rfl) ?_
  refine Ex_br (fun hc => ?_) (fun hc => ?_)
  · rw [if_pos hc] at hF
    refine Ex_go 4 (pc' := 32) (L' := [some (.ref 53), some (.long x1), none, some (.int x3), some (.int x4), some (.int (0 : Int32)), some (.long (1000000000000000 : Int64)), none, none]) (st' := []) (σ' := (S, M, O)) (rfl) ?_
    exact Ex_mono (L := [some (.ref 53), some (.long x1), none, some (.int x3), some (.int x4), some (.int (0 : Int32)), some (.long (1000000000000000 : Int64)), none, none]) (Le_s (Le_s (Le_n (Le_s (Le_s (Le_s (Le_s (Le_n (Le_n (Le_0)))))))))) (X_Li_addingUpTo_32 hd FU _ _ _ _ _ _ _ _ hF) (Nat.le_refl _) (by omega)
  · rw [if_neg hc] at hF
    refine Ex_go 4 (pc' := 17) (L' := [some (.ref 53), some (.long x1), none, some (.int x3), some (.int x4), some (.int x5), none, none, none]) (st' := [.long (0 : Int64), .int x5, .ref (gr S 48)]) (σ' := (S, M, O)) (rfl) ?_
    obtain ⟨hl1, hF⟩ := ck_i hF
    obtain ⟨hc2, hF⟩ := ck_i hF
    refine Ex_chk (b := ib x5 50) (pc' := 18) (L' := [some (.ref 53), some (.long x1), none, some (.int x3), some (.int x4), some (.int x5), none, none, none]) (st' := []) (σ' := ((ul S (gr S 48) (vp_updL (al S (gr S 48)) (Int32.toNatClampNeg x5) (0 : Int64))), M, O)) (stL_st rfl (isLb_at hl1)) hc2 ?_
    refine Ex_go 2 (pc' := 3) (L' := [some (.ref 53), some (.long x1), none, some (.int x3), some (.int x4), some (.int (x5 + (1 : Int32))), none, none, none]) (st' := []) (σ' := ((ul S (gr S 48) (vp_updL (al S (gr S 48)) (Int32.toNatClampNeg x5) (0 : Int64))), M, O)) (rfl) ?_
    exact Ex_mono (L := [some (.ref 53), some (.long x1), none, some (.int x3), some (.int x4), some (.int (x5 + (1 : Int32))), none, none, none]) (Le_s (Le_s (Le_n (Le_s (Le_s (Le_s (Le_n (Le_n (Le_n (Le_0)))))))))) (ih _ _ _ _ _ _ _ hF) (Nat.le_refl _) (by omega)
def F_Li_addingUpTo (x1 : Int64) (x3 : Int32) (x4 : Int32) (S : Sto) : Option (Int64 × Sto) := F_Li_addingUpTo_3 FU x1 x3 x4 (0 : Int32) S
set_option maxRecDepth 100000 in
theorem X_Li_addingUpTo {nL : Nat} {xs : Nat → Int32} {M : Sto} {O : Sto} {d : Nat} (hd : 4 ≤ d) : ∀ (x1 : Int64) (x3 : Int32) (x4 : Int32) (S : Sto) (r : Int64) (S' : Sto), F_Li_addingUpTo x1 x3 x4 S = some (r, S') → EX nL xs 0 MI_230 d 0 [some (.ref 53), some (.long x1), none, some (.int x3), some (.int x4), none, none, none, none] [] (S, M, O) (.inl (some (.long r))) (S', M, O) := by
  intro x1 x3 x4 S r S' hF
  unfold F_Li_addingUpTo at hF
  refine Ex_go 2 (pc' := 3) (L' := [some (.ref 53), some (.long x1), none, some (.int x3), some (.int x4), some (.int (0 : Int32)), none, none, none]) (st' := []) (σ' := (S, M, O)) (rfl) ?_
  exact Ex_mono (L := [some (.ref 53), some (.long x1), none, some (.int x3), some (.int x4), some (.int (0 : Int32)), none, none, none]) (Le_s (Le_s (Le_n (Le_s (Le_s (Le_s (Le_n (Le_n (Le_n (Le_0)))))))))) (X_Li_addingUpTo_3 hd FU _ _ _ _ _ _ _ hF) (Nat.le_refl _) (by omega)
def F_w_sums_29 (S : Sto) : Option ((Int64 ⊕ Nat) × Sto) := some ((.inr 0), S)
set_option maxRecDepth 100000 in
theorem X_w_sums_29 {nL : Nat} {xs : Nat → Int32} {M : Sto} {O : Sto} {d : Nat} (hd : 8 ≤ d) : ∀ (S : Sto) (r : Int64 ⊕ Nat) (S' : Sto), F_w_sums_29 S = some (r, S') → EX nL xs 1 MI_231 d 29 [none, none, none, none, none] [] (S, M, O) (rsJ r) (S', M, O) := by
  intro S r S' hF
  unfold F_w_sums_29 at hF
  cases hF
  exact Ex_thr rfl (by omega) (Nat.le_refl _)
def F_w_sums (x1 : Int64) (x3 : Int32) (x4 : Int32) (S : Sto) : Option ((Int64 ⊕ Nat) × Sto) := b1 (F_w_isLicence x1) (fun r1 => if r1 = 0 then F_w_sums_29 S else if x3 < (1 : Int32) then F_w_sums_29 S else if (50 : Int32) < x3 then F_w_sums_29 S else if x4 < 0 then F_w_sums_29 S else if x4 < x3 then b2 (F_Li_addingUpTo x1 x3 x4 S) (fun r3 S5 => some ((.inl r3), S5)) else F_w_sums_29 S)
set_option maxRecDepth 100000 in
theorem X_w_sums {nL : Nat} {xs : Nat → Int32} {M : Sto} {O : Sto} {d : Nat} (hd : 8 ≤ d) : ∀ (x1 : Int64) (x3 : Int32) (x4 : Int32) (S : Sto) (r : Int64 ⊕ Nat) (S' : Sto), F_w_sums x1 x3 x4 S = some (r, S') → EX nL xs 1 MI_231 d 0 [some (.ref 0), some (.long x1), none, some (.int x3), some (.int x4)] [] (S, M, O) (rsJ r) (S', M, O) := by
  intro x1 x3 x4 S r S' hF
  unfold F_w_sums at hF
  refine Ex_go 1 (pc' := 1) (L' := [some (.ref 0), some (.long x1), none, some (.int x3), some (.int x4)]) (st' := [.long x1]) (σ' := (S, M, O)) (rfl) ?_
  obtain ⟨r1, hx2, hF⟩ := b1_i hF
  refine Ex_callK (K1 := 0) (K2 := 1) (kind := 0) (y := 227) (as := [.long x1]) (rest := []) (L0 := [some (.long x1), none]) (d' := 1) (v := some (.int r1)) (σ1 := (S, M, O)) rfl rfl mt_227 rfl rfl (by omega) (X_w_isLicence (Nat.le_refl _) _ _ hx2) (Ex_st (st2 := [.int r1]) rfl ?_) (by omega)
  refine Ex_go 1 (pc' := if r1 = 0 then 29 else 7) (L' := [some (.ref 0), some (.long x1), none, some (.int x3), some (.int x4)]) (st' := []) (σ' := (S, M, O)) (rfl) ?_
  refine Ex_br (fun hc => ?_) (fun hc => ?_)
  · rw [if_pos hc] at hF
    exact Ex_mono (L := [none, none, none, none, none]) (Le_n (Le_n (Le_n (Le_n (Le_n (Le_0)))))) (X_w_sums_29 hd _ _ _ hF) (Nat.le_refl _) (by omega)
  · rw [if_neg hc] at hF
    refine Ex_go 3 (pc' := if x3 < (1 : Int32) then 29 else 12) (L' := [some (.ref 0), some (.long x1), none, some (.int x3), some (.int x4)]) (st' := []) (σ' := (S, M, O)) (rfl) ?_
    refine Ex_br (fun hc => ?_) (fun hc => ?_)
    · rw [if_pos hc] at hF
      exact Ex_mono (L := [none, none, none, none, none]) (Le_n (Le_n (Le_n (Le_n (Le_n (Le_0)))))) (X_w_sums_29 hd _ _ _ hF) (Nat.le_refl _) (by omega)
    · rw [if_neg hc] at hF
      refine Ex_go 3 (pc' := if (50 : Int32) < x3 then 29 else 18) (L' := [some (.ref 0), some (.long x1), none, some (.int x3), some (.int x4)]) (st' := []) (σ' := (S, M, O)) (rfl) ?_
      refine Ex_br (fun hc => ?_) (fun hc => ?_)
      · rw [if_pos hc] at hF
        exact Ex_mono (L := [none, none, none, none, none]) (Le_n (Le_n (Le_n (Le_n (Le_n (Le_0)))))) (X_w_sums_29 hd _ _ _ hF) (Nat.le_refl _) (by omega)
      · rw [if_neg hc] at hF
        refine Ex_go 2 (pc' := if x4 < 0 then 29 else 23) (L' := [some (.ref 0), some (.long x1), none, some (.int x3), some (.int x4)]) (st' := []) (σ' := (S, M, O)) (rfl) ?_
        refine Ex_br (fun hc => ?_) (fun hc => ?_)
        · rw [if_pos hc] at hF
          exact Ex_mono (L := [none, none, none, none, none]) (Le_n (Le_n (Le_n (Le_n (Le_n (Le_0)))))) (X_w_sums_29 hd _ _ _ hF) (Nat.le_refl _) (by omega)
        · rw [if_neg hc] at hF
          refine Ex_go 3 (pc' := if x4 < x3 then 37 else 29) (L' := [some (.ref 0), some (.long x1), none, some (.int x3), some (.int x4)]) (st' := []) (σ' := (S, M, O)) (rfl) ?_
          refine Ex_br (fun hc => ?_) (fun hc => ?_)
          · rw [if_pos hc] at hF
            refine Ex_go 5 (pc' := 45) (L' := [some (.ref 0), some (.long x1), none, some (.int x3), some (.int x4)]) (st' := [.int x4, .int x3, .long x1, .ref 53]) (σ' := (S, M, O)) (rfl) ?_
            obtain ⟨r3, S5, hx4, hF⟩ := b2_i hF
            refine Ex_callK (K1 := 0) (K2 := 1) (kind := 2) (y := 230) (as := [.ref 53, .long x1, .int x3, .int x4]) (rest := []) (L0 := [some (.ref 53), some (.long x1), none, some (.int x3), some (.int x4), none, none, none, none]) (d' := 4) (v := some (.long r3)) (σ1 := (S5, M, O)) rfl rfl mt_230 rfl rfl (by omega) (X_Li_addingUpTo (Nat.le_refl _) _ _ _ _ _ _ hx4) (Ex_st (st2 := [.long r3]) rfl ?_) (by omega)
            cases hF
            exact Ex_fin rfl
          · rw [if_neg hc] at hF
            exact Ex_mono (L := [none, none, none, none, none]) (Le_n (Le_n (Le_n (Le_n (Le_n (Le_0)))))) (X_w_sums_29 hd _ _ _ hF) (Nat.le_refl _) (by omega)
def F_l_sums (x1 : Int64) (x3 : Int32) (x4 : Int32) (S : Sto) (O : Sto) : Option (Int32 × Sto × Sto) := b2 (F_w_sums x1 x3 x4 S) (fun r1 S3 => su r1 (fun v4 => some ((0 : Int32), S3, (ul O 2000 (vp_updL (al O 2000) (Int32.toNatClampNeg (0 : Int32)) v4)))) (fun z5 => if z5 = 0 then some ((1 : Int32), S3, O) else (none)))
set_option maxRecDepth 100000 in
theorem X_l_sums {nL : Nat} {xs : Nat → Int32} {M : Sto} {d : Nat} (hd : 9 ≤ d) : ∀ (x1 : Int64) (x3 : Int32) (x4 : Int32) (S : Sto) (O : Sto) (r : Int32) (S' : Sto) (O' : Sto), F_l_sums x1 x3 x4 S O = some (r, S', O') → EX nL xs 1 MI_232 d 0 [some (.ref 0), some (.long x1), none, some (.int x3), some (.int x4), some (.ref 2000), none] [] (S, M, O) (.inl (some (.int r))) (S', M, O') := by
  intro x1 x3 x4 S O r S' O' hF
  unfold F_l_sums at hF
  refine Ex_go 6 (pc' := 8) (L' := [some (.ref 0), some (.long x1), none, some (.int x3), some (.int x4), some (.ref 2000), none]) (st' := [.int x4, .int x3, .long x1, .ref 0, .int (0 : Int32), .ref 2000]) (σ' := (S, M, O)) (rfl) ?_
  obtain ⟨r1, S3, hx2, hF⟩ := b2_i hF
  cases r1 with
  | inl v4 =>
    rw [su_l] at hF
    refine Ex_callK (K1 := 1) (K2 := 0) (kind := 3) (y := 231) (as := [.ref 0, .long x1, .int x3, .int x4]) (rest := [.int (0 : Int32), .ref 2000]) (L0 := [some (.ref 0), some (.long x1), none, some (.int x3), some (.int x4)]) (d' := 8) (v := some (.long v4)) (σ1 := (S3, M, O)) rfl rfl mt_231 rfl rfl (by omega) (X_w_sums (Nat.le_refl _) _ _ _ _ _ _ hx2) (Ex_st (st2 := [.long v4, .int (0 : Int32), .ref 2000]) rfl ?_) (by omega)
    refine Ex_chk (b := ib (0 : Int32) 1) (pc' := 12) (L' := [some (.ref 0), some (.long x1), none, some (.int x3), some (.int x4), some (.ref 2000), none]) (st' := []) (σ' := (S3, M, (ul O 2000 (vp_updL (al O 2000) (Int32.toNatClampNeg (0 : Int32)) v4)))) rfl (by decide) ?_
    refine Ex_go 2 (pc' := 20) (L' := [some (.ref 0), some (.long x1), none, some (.int x3), some (.int x4), some (.ref 2000), none]) (st' := [.int (0 : Int32)]) (σ' := (S3, M, (ul O 2000 (vp_updL (al O 2000) (Int32.toNatClampNeg (0 : Int32)) v4)))) (rfl) ?_
    cases hF
    exact Ex_fin rfl
  | inr z5 =>
    by_cases hz0 : z5 = 0
    · have hF : (if z5 = 0 then _ else _) = _ := hF
      rw [if_pos hz0] at hF
      subst hz0
      refine Ex_callX (K1 := 1) (K2 := 0) (y := 231) (as := [.ref 0, .long x1, .int x3, .int x4]) (rest := [.int (0 : Int32), .ref 2000]) (L0 := [some (.ref 0), some (.long x1), none, some (.int x3), some (.int x4)]) (d' := 8) (σ1 := (S3, M, O)) (x := 0) (pc' := 17) (i := 6) rfl rfl mt_231 rfl rfl (by omega) (X_w_sums (Nat.le_refl _) _ _ _ _ _ _ hx2) rfl (Ex_L (L2 := [some (.ref 0), some (.long x1), none, some (.int x3), some (.int x4), some (.ref 2000), none]) rfl ?_) (by omega)
      refine Ex_go 1 (pc' := 18) (L' := [some (.ref 0), some (.long x1), none, some (.int x3), some (.int x4), some (.ref 2000), none]) (st' := [.int (1 : Int32)]) (σ' := (S3, M, O)) (rfl) ?_
      cases hF
      exact Ex_fin rfl
    have hF : (if z5 = 0 then _ else _) = _ := hF
    rw [if_neg hz0] at hF
    cases hF
def F_m_tellSums_21 (k2 : Int32 → Int32 → Int32 → Sto → Option (Unit × Sto)) (x1 : Int32) (x2 : Int32) (x3 : Int32) (s1 : Int32) (s2 : Int64) (M : Sto) : Option (Unit × Sto) := ck (ib s1 51) (k2 x1 x2 (x3 + (1 : Int32)) (ul M 1022 (vp_updL (al M 1022) (Int32.toNatClampNeg s1) s2)))
set_option maxRecDepth 100000 in
theorem X_m_tellSums_21 {nL : Nat} {xs : Nat → Int32} {S : Sto} {O : Sto} {d : Nat} (hd : 1 ≤ d) {k2 : Int32 → Int32 → Int32 → Sto → Option (Unit × Sto)} (hk2 : ∀ (x1 : Int32) (x2 : Int32) (x3 : Int32) (M : Sto) (r : Unit) (M' : Sto), k2 x1 x2 x3 M = some (r, M') → EX nL xs 0 MI_235 d 2 [some (.ref 1000), some (.int x1), some (.int x2), some (.int x3), none, none] [] (S, M, O) (.inl none) (S, M', O)) : ∀ (x1 : Int32) (x2 : Int32) (x3 : Int32) (s1 : Int32) (s2 : Int64) (M : Sto) (r : Unit) (M' : Sto), F_m_tellSums_21 k2 x1 x2 x3 s1 s2 M = some (r, M') → EX nL xs 0 MI_235 d 21 [some (.ref 1000), some (.int x1), some (.int x2), some (.int x3), none, none] [.long s2, .int s1, .ref 1022] (S, M, O) (.inl none) (S, M', O) := by
  intro x1 x2 x3 s1 s2 M r M' hF
  unfold F_m_tellSums_21 at hF
  obtain ⟨hc1, hF⟩ := ck_i hF
  refine Ex_chk (b := ib s1 51) (pc' := 22) (L' := [some (.ref 1000), some (.int x1), some (.int x2), some (.int x3), none, none]) (st' := []) (σ' := (S, (ul M 1022 (vp_updL (al M 1022) (Int32.toNatClampNeg s1) s2)), O)) rfl hc1 ?_
  refine Ex_go 2 (pc' := 2) (L' := [some (.ref 1000), some (.int x1), some (.int x2), some (.int (x3 + (1 : Int32))), none, none]) (st' := []) (σ' := (S, (ul M 1022 (vp_updL (al M 1022) (Int32.toNatClampNeg s1) s2)), O)) (rfl) ?_
  exact Ex_mono (L := [some (.ref 1000), some (.int x1), some (.int x2), some (.int (x3 + (1 : Int32))), none, none]) (Le_s (Le_s (Le_s (Le_s (Le_n (Le_n (Le_0))))))) (hk2 _ _ _ _ _ _ hF) (Nat.le_refl _) (by omega)
def F_m_tellSums_70 (k30 : Int32 → Int32 → Int32 → Sto → Option (Unit × Sto)) (k61 : Int32 → Int32 → Int32 → Int32 → Sto → Option (Unit × Sto)) : Nat → Int32 → Int32 → Int32 → Int32 → Int32 → Sto → Option (Unit × Sto)
  | 0, _, _, _, _, _, _ => none
  | n + 1, x1, x2, x3, x4, x5, M => if (10 : Int32) ≤ x5 then k61 x1 x2 x3 (x4 + (1 : Int32)) M else ck (nzI x2) (ck (ib ((x4 + x5) - (x4 + x5) / x2 * x2) 51) (ck (ib x4 51) (ck (ib ((x4 + x5) - (x4 + x5) / x2 * x2) 51) (F_m_tellSums_70 k30 k61 n x1 x2 x3 x4 (x5 + (1 : Int32)) (ul M 1023 (vp_updL (al M 1023) (Int32.toNatClampNeg ((x4 + x5) - (x4 + x5) / x2 * x2)) ((al M 1023 (Int32.toNatClampNeg ((x4 + x5) - (x4 + x5) / x2 * x2))) + (al M 1022 (Int32.toNatClampNeg x4)))))))))
set_option maxRecDepth 100000 in
theorem X_m_tellSums_70 {nL : Nat} {xs : Nat → Int32} {S : Sto} {O : Sto} {d : Nat} (hd : 1 ≤ d) {k30 : Int32 → Int32 → Int32 → Sto → Option (Unit × Sto)} {k61 : Int32 → Int32 → Int32 → Int32 → Sto → Option (Unit × Sto)} (hk30 : ∀ (x1 : Int32) (x2 : Int32) (x3 : Int32) (M : Sto) (r : Unit) (M' : Sto), k30 x1 x2 x3 M = some (r, M') → EX nL xs 0 MI_235 d 30 [some (.ref 1000), some (.int x1), some (.int x2), some (.int x3), none, none] [] (S, M, O) (.inl none) (S, M', O)) (hk61 : ∀ (x1 : Int32) (x2 : Int32) (x3 : Int32) (x4 : Int32) (M : Sto) (r : Unit) (M' : Sto), k61 x1 x2 x3 x4 M = some (r, M') → EX nL xs 0 MI_235 d 61 [some (.ref 1000), some (.int x1), some (.int x2), some (.int x3), some (.int x4), none] [] (S, M, O) (.inl none) (S, M', O)) : ∀ n : Nat, ∀ (x1 : Int32) (x2 : Int32) (x3 : Int32) (x4 : Int32) (x5 : Int32) (M : Sto) (r : Unit) (M' : Sto), F_m_tellSums_70 k30 k61 n x1 x2 x3 x4 x5 M = some (r, M') → EX nL xs 0 MI_235 d 70 [some (.ref 1000), some (.int x1), some (.int x2), some (.int x3), some (.int x4), some (.int x5)] [] (S, M, O) (.inl none) (S, M', O) := by
  intro n
  induction n with
  | zero => intro x1 x2 x3 x4 x5 M r M' hF; cases hF
  | succ n ih =>
  intro x1 x2 x3 x4 x5 M r M' hF
  unfold F_m_tellSums_70 at hF
  refine Ex_go 3 (pc' := if (10 : Int32) ≤ x5 then 105 else 77) (L' := [some (.ref 1000), some (.int x1), some (.int x2), some (.int x3), some (.int x4), some (.int x5)]) (st' := []) (σ' := (S, M, O)) (rfl) ?_
  refine Ex_br (fun hc => ?_) (fun hc => ?_)
  · rw [if_pos hc] at hF
    refine Ex_go 2 (pc' := 61) (L' := [some (.ref 1000), some (.int x1), some (.int x2), some (.int x3), some (.int (x4 + (1 : Int32))), some (.int x5)]) (st' := []) (σ' := (S, M, O)) (rfl) ?_
    exact Ex_mono (L := [some (.ref 1000), some (.int x1), some (.int x2), some (.int x3), some (.int (x4 + (1 : Int32))), none]) (Le_s (Le_s (Le_s (Le_s (Le_s (Le_n (Le_0))))))) (hk61 _ _ _ _ _ _ _ hF) (Nat.le_refl _) (by omega)
  · rw [if_neg hc] at hF
    refine Ex_go 6 (pc' := 87) (L' := [some (.ref 1000), some (.int x1), some (.int x2), some (.int x3), some (.int x4), some (.int x5)]) (st' := [.int x2, .int (x4 + x5), .ref 1023]) (σ' := (S, M, O)) (rfl) ?_
    obtain ⟨hc1, hF⟩ := ck_i hF
    refine Ex_chk (b := nzI x2) (pc' := 88) (L' := [some (.ref 1000), some (.int x1), some (.int x2), some (.int x3), some (.int x4), some (.int x5)]) (st' := [.int ((x4 + x5) - (x4 + x5) / x2 * x2), .ref 1023]) (σ' := (S, M, O)) rfl hc1 ?_
    refine Ex_go 1 (pc' := 89) (L' := [some (.ref 1000), some (.int x1), some (.int x2), some (.int x3), some (.int x4), some (.int x5)]) (st' := [.int ((x4 + x5) - (x4 + x5) / x2 * x2), .ref 1023, .int ((x4 + x5) - (x4 + x5) / x2 * x2), .ref 1023]) (σ' := (S, M, O)) (rfl) ?_
    obtain ⟨hc2, hF⟩ := ck_i hF
    refine Ex_chk (b := ib ((x4 + x5) - (x4 + x5) / x2 * x2) 51) (pc' := 90) (L' := [some (.ref 1000), some (.int x1), some (.int x2), some (.int x3), some (.int x4), some (.int x5)]) (st' := [.long (al M 1023 (Int32.toNatClampNeg ((x4 + x5) - (x4 + x5) / x2 * x2))), .int ((x4 + x5) - (x4 + x5) / x2 * x2), .ref 1023]) (σ' := (S, M, O)) rfl hc2 ?_
    refine Ex_go 3 (pc' := 96) (L' := [some (.ref 1000), some (.int x1), some (.int x2), some (.int x3), some (.int x4), some (.int x5)]) (st' := [.int x4, .ref 1022, .long (al M 1023 (Int32.toNatClampNeg ((x4 + x5) - (x4 + x5) / x2 * x2))), .int ((x4 + x5) - (x4 + x5) / x2 * x2), .ref 1023]) (σ' := (S, M, O)) (rfl) ?_
    obtain ⟨hc3, hF⟩ := ck_i hF
    refine Ex_chk (b := ib x4 51) (pc' := 97) (L' := [some (.ref 1000), some (.int x1), some (.int x2), some (.int x3), some (.int x4), some (.int x5)]) (st' := [.long (al M 1022 (Int32.toNatClampNeg x4)), .long (al M 1023 (Int32.toNatClampNeg ((x4 + x5) - (x4 + x5) / x2 * x2))), .int ((x4 + x5) - (x4 + x5) / x2 * x2), .ref 1023]) (σ' := (S, M, O)) rfl hc3 ?_
    refine Ex_go 1 (pc' := 98) (L' := [some (.ref 1000), some (.int x1), some (.int x2), some (.int x3), some (.int x4), some (.int x5)]) (st' := [.long ((al M 1023 (Int32.toNatClampNeg ((x4 + x5) - (x4 + x5) / x2 * x2))) + (al M 1022 (Int32.toNatClampNeg x4))), .int ((x4 + x5) - (x4 + x5) / x2 * x2), .ref 1023]) (σ' := (S, M, O)) (rfl) ?_
    obtain ⟨hc4, hF⟩ := ck_i hF
    refine Ex_chk (b := ib ((x4 + x5) - (x4 + x5) / x2 * x2) 51) (pc' := 99) (L' := [some (.ref 1000), some (.int x1), some (.int x2), some (.int x3), some (.int x4), some (.int x5)]) (st' := []) (σ' := (S, (ul M 1023 (vp_updL (al M 1023) (Int32.toNatClampNeg ((x4 + x5) - (x4 + x5) / x2 * x2)) ((al M 1023 (Int32.toNatClampNeg ((x4 + x5) - (x4 + x5) / x2 * x2))) + (al M 1022 (Int32.toNatClampNeg x4))))), O)) rfl hc4 ?_
    refine Ex_go 2 (pc' := 70) (L' := [some (.ref 1000), some (.int x1), some (.int x2), some (.int x3), some (.int x4), some (.int (x5 + (1 : Int32)))]) (st' := []) (σ' := (S, (ul M 1023 (vp_updL (al M 1023) (Int32.toNatClampNeg ((x4 + x5) - (x4 + x5) / x2 * x2)) ((al M 1023 (Int32.toNatClampNeg ((x4 + x5) - (x4 + x5) / x2 * x2))) + (al M 1022 (Int32.toNatClampNeg x4))))), O)) (rfl) ?_
    exact Ex_mono (L := [some (.ref 1000), some (.int x1), some (.int x2), some (.int x3), some (.int x4), some (.int (x5 + (1 : Int32)))]) (Le_s (Le_s (Le_s (Le_s (Le_s (Le_s (Le_0))))))) (ih _ _ _ _ _ _ _ _ hF) (Nat.le_refl _) (by omega)
def F_m_tellSums_114 (k30 : Int32 → Int32 → Int32 → Sto → Option (Unit × Sto)) : Nat → Int32 → Int32 → Int32 → Int32 → Sto → Option (Unit × Sto)
  | 0, _, _, _, _, _ => none
  | n + 1, x1, x2, x3, x4, M => if x2 ≤ x4 then k30 x1 x2 (x3 + (1 : Int32)) M else ck (ib x4 51) (ck (ib x4 51) (F_m_tellSums_114 k30 n x1 x2 x3 (x4 + (1 : Int32)) (ul M 1022 (vp_updL (al M 1022) (Int32.toNatClampNeg x4) (al M 1023 (Int32.toNatClampNeg x4))))))
set_option maxRecDepth 100000 in
theorem X_m_tellSums_114 {nL : Nat} {xs : Nat → Int32} {S : Sto} {O : Sto} {d : Nat} (hd : 1 ≤ d) {k30 : Int32 → Int32 → Int32 → Sto → Option (Unit × Sto)} (hk30 : ∀ (x1 : Int32) (x2 : Int32) (x3 : Int32) (M : Sto) (r : Unit) (M' : Sto), k30 x1 x2 x3 M = some (r, M') → EX nL xs 0 MI_235 d 30 [some (.ref 1000), some (.int x1), some (.int x2), some (.int x3), none, none] [] (S, M, O) (.inl none) (S, M', O)) : ∀ n : Nat, ∀ (x1 : Int32) (x2 : Int32) (x3 : Int32) (x4 : Int32) (M : Sto) (r : Unit) (M' : Sto), F_m_tellSums_114 k30 n x1 x2 x3 x4 M = some (r, M') → EX nL xs 0 MI_235 d 114 [some (.ref 1000), some (.int x1), some (.int x2), some (.int x3), some (.int x4), none] [] (S, M, O) (.inl none) (S, M', O) := by
  intro n
  induction n with
  | zero => intro x1 x2 x3 x4 M r M' hF; cases hF
  | succ n ih =>
  intro x1 x2 x3 x4 M r M' hF
  unfold F_m_tellSums_114 at hF
  refine Ex_go 3 (pc' := if x2 ≤ x4 then 140 else 120) (L' := [some (.ref 1000), some (.int x1), some (.int x2), some (.int x3), some (.int x4), none]) (st' := []) (σ' := (S, M, O)) (rfl) ?_
  refine Ex_br (fun hc => ?_) (fun hc => ?_)
  · rw [if_pos hc] at hF
    refine Ex_go 2 (pc' := 30) (L' := [some (.ref 1000), some (.int x1), some (.int x2), some (.int (x3 + (1 : Int32))), some (.int x4), none]) (st' := []) (σ' := (S, M, O)) (rfl) ?_
    exact Ex_mono (L := [some (.ref 1000), some (.int x1), some (.int x2), some (.int (x3 + (1 : Int32))), none, none]) (Le_s (Le_s (Le_s (Le_s (Le_n (Le_n (Le_0))))))) (hk30 _ _ _ _ _ _ hF) (Nat.le_refl _) (by omega)
  · rw [if_neg hc] at hF
    refine Ex_go 6 (pc' := 132) (L' := [some (.ref 1000), some (.int x1), some (.int x2), some (.int x3), some (.int x4), none]) (st' := [.int x4, .ref 1023, .int x4, .ref 1022]) (σ' := (S, M, O)) (rfl) ?_
    obtain ⟨hc1, hF⟩ := ck_i hF
    refine Ex_chk (b := ib x4 51) (pc' := 133) (L' := [some (.ref 1000), some (.int x1), some (.int x2), some (.int x3), some (.int x4), none]) (st' := [.long (al M 1023 (Int32.toNatClampNeg x4)), .int x4, .ref 1022]) (σ' := (S, M, O)) rfl hc1 ?_
    obtain ⟨hc2, hF⟩ := ck_i hF
    refine Ex_chk (b := ib x4 51) (pc' := 134) (L' := [some (.ref 1000), some (.int x1), some (.int x2), some (.int x3), some (.int x4), none]) (st' := []) (σ' := (S, (ul M 1022 (vp_updL (al M 1022) (Int32.toNatClampNeg x4) (al M 1023 (Int32.toNatClampNeg x4)))), O)) rfl hc2 ?_
    refine Ex_go 2 (pc' := 114) (L' := [some (.ref 1000), some (.int x1), some (.int x2), some (.int x3), some (.int (x4 + (1 : Int32))), none]) (st' := []) (σ' := (S, (ul M 1022 (vp_updL (al M 1022) (Int32.toNatClampNeg x4) (al M 1023 (Int32.toNatClampNeg x4)))), O)) (rfl) ?_
    exact Ex_mono (L := [some (.ref 1000), some (.int x1), some (.int x2), some (.int x3), some (.int (x4 + (1 : Int32))), none]) (Le_s (Le_s (Le_s (Le_s (Le_s (Le_n (Le_0))))))) (ih _ _ _ _ _ _ _ hF) (Nat.le_refl _) (by omega)
def F_m_tellSums_61 (k30 : Int32 → Int32 → Int32 → Sto → Option (Unit × Sto)) : Nat → Int32 → Int32 → Int32 → Int32 → Sto → Option (Unit × Sto)
  | 0, _, _, _, _, _ => none
  | n + 1, x1, x2, x3, x4, M => if x2 ≤ x4 then F_m_tellSums_114 k30 FU x1 x2 x3 (0 : Int32) M else F_m_tellSums_70 k30 (F_m_tellSums_61 k30 n) FU x1 x2 x3 x4 (0 : Int32) M
set_option maxRecDepth 100000 in
theorem X_m_tellSums_61 {nL : Nat} {xs : Nat → Int32} {S : Sto} {O : Sto} {d : Nat} (hd : 1 ≤ d) {k30 : Int32 → Int32 → Int32 → Sto → Option (Unit × Sto)} (hk30 : ∀ (x1 : Int32) (x2 : Int32) (x3 : Int32) (M : Sto) (r : Unit) (M' : Sto), k30 x1 x2 x3 M = some (r, M') → EX nL xs 0 MI_235 d 30 [some (.ref 1000), some (.int x1), some (.int x2), some (.int x3), none, none] [] (S, M, O) (.inl none) (S, M', O)) : ∀ n : Nat, ∀ (x1 : Int32) (x2 : Int32) (x3 : Int32) (x4 : Int32) (M : Sto) (r : Unit) (M' : Sto), F_m_tellSums_61 k30 n x1 x2 x3 x4 M = some (r, M') → EX nL xs 0 MI_235 d 61 [some (.ref 1000), some (.int x1), some (.int x2), some (.int x3), some (.int x4), none] [] (S, M, O) (.inl none) (S, M', O) := by
  intro n
  induction n with
  | zero => intro x1 x2 x3 x4 M r M' hF; cases hF
  | succ n ih =>
  intro x1 x2 x3 x4 M r M' hF
  unfold F_m_tellSums_61 at hF
  refine Ex_go 3 (pc' := if x2 ≤ x4 then 111 else 67) (L' := [some (.ref 1000), some (.int x1), some (.int x2), some (.int x3), some (.int x4), none]) (st' := []) (σ' := (S, M, O)) (rfl) ?_
  refine Ex_br (fun hc => ?_) (fun hc => ?_)
  · rw [if_pos hc] at hF
    refine Ex_go 2 (pc' := 114) (L' := [some (.ref 1000), some (.int x1), some (.int x2), some (.int x3), some (.int (0 : Int32)), none]) (st' := []) (σ' := (S, M, O)) (rfl) ?_
    exact Ex_mono (L := [some (.ref 1000), some (.int x1), some (.int x2), some (.int x3), some (.int (0 : Int32)), none]) (Le_s (Le_s (Le_s (Le_s (Le_s (Le_n (Le_0))))))) (X_m_tellSums_114 hd hk30 FU _ _ _ _ _ _ _ hF) (Nat.le_refl _) (by omega)
  · rw [if_neg hc] at hF
    refine Ex_go 2 (pc' := 70) (L' := [some (.ref 1000), some (.int x1), some (.int x2), some (.int x3), some (.int x4), some (.int (0 : Int32))]) (st' := []) (σ' := (S, M, O)) (rfl) ?_
    exact Ex_mono (L := [some (.ref 1000), some (.int x1), some (.int x2), some (.int x3), some (.int x4), some (.int (0 : Int32))]) (Le_s (Le_s (Le_s (Le_s (Le_s (Le_s (Le_0))))))) (X_m_tellSums_70 hd hk30 ih FU _ _ _ _ _ _ _ _ hF) (Nat.le_refl _) (by omega)
def F_m_tellSums_38 (k30 : Int32 → Int32 → Int32 → Sto → Option (Unit × Sto)) : Nat → Int32 → Int32 → Int32 → Int32 → Sto → Option (Unit × Sto)
  | 0, _, _, _, _, _ => none
  | n + 1, x1, x2, x3, x4, M => if x2 ≤ x4 then F_m_tellSums_61 k30 FU x1 x2 x3 (0 : Int32) M else ck (ib x4 51) (F_m_tellSums_38 k30 n x1 x2 x3 (x4 + (1 : Int32)) (ul M 1023 (vp_updL (al M 1023) (Int32.toNatClampNeg x4) (0 : Int64))))
set_option maxRecDepth 100000 in
theorem X_m_tellSums_38 {nL : Nat} {xs : Nat → Int32} {S : Sto} {O : Sto} {d : Nat} (hd : 1 ≤ d) {k30 : Int32 → Int32 → Int32 → Sto → Option (Unit × Sto)} (hk30 : ∀ (x1 : Int32) (x2 : Int32) (x3 : Int32) (M : Sto) (r : Unit) (M' : Sto), k30 x1 x2 x3 M = some (r, M') → EX nL xs 0 MI_235 d 30 [some (.ref 1000), some (.int x1), some (.int x2), some (.int x3), none, none] [] (S, M, O) (.inl none) (S, M', O)) : ∀ n : Nat, ∀ (x1 : Int32) (x2 : Int32) (x3 : Int32) (x4 : Int32) (M : Sto) (r : Unit) (M' : Sto), F_m_tellSums_38 k30 n x1 x2 x3 x4 M = some (r, M') → EX nL xs 0 MI_235 d 38 [some (.ref 1000), some (.int x1), some (.int x2), some (.int x3), some (.int x4), none] [] (S, M, O) (.inl none) (S, M', O) := by
  intro n
  induction n with
  | zero => intro x1 x2 x3 x4 M r M' hF; cases hF
  | succ n ih =>
  intro x1 x2 x3 x4 M r M' hF
  unfold F_m_tellSums_38 at hF
  refine Ex_go 3 (pc' := if x2 ≤ x4 then 58 else 44) (L' := [some (.ref 1000), some (.int x1), some (.int x2), some (.int x3), some (.int x4), none]) (st' := []) (σ' := (S, M, O)) (rfl) ?_
  refine Ex_br (fun hc => ?_) (fun hc => ?_)
  · rw [if_pos hc] at hF
    refine Ex_go 2 (pc' := 61) (L' := [some (.ref 1000), some (.int x1), some (.int x2), some (.int x3), some (.int (0 : Int32)), none]) (st' := []) (σ' := (S, M, O)) (rfl) ?_
    exact Ex_mono (L := [some (.ref 1000), some (.int x1), some (.int x2), some (.int x3), some (.int (0 : Int32)), none]) (Le_s (Le_s (Le_s (Le_s (Le_s (Le_n (Le_0))))))) (X_m_tellSums_61 hd hk30 FU _ _ _ _ _ _ _ hF) (Nat.le_refl _) (by omega)
  · rw [if_neg hc] at hF
    refine Ex_go 4 (pc' := 51) (L' := [some (.ref 1000), some (.int x1), some (.int x2), some (.int x3), some (.int x4), none]) (st' := [.long (0 : Int64), .int x4, .ref 1023]) (σ' := (S, M, O)) (rfl) ?_
    obtain ⟨hc1, hF⟩ := ck_i hF
    refine Ex_chk (b := ib x4 51) (pc' := 52) (L' := [some (.ref 1000), some (.int x1), some (.int x2), some (.int x3), some (.int x4), none]) (st' := []) (σ' := (S, (ul M 1023 (vp_updL (al M 1023) (Int32.toNatClampNeg x4) (0 : Int64))), O)) rfl hc1 ?_
    refine Ex_go 2 (pc' := 38) (L' := [some (.ref 1000), some (.int x1), some (.int x2), some (.int x3), some (.int (x4 + (1 : Int32))), none]) (st' := []) (σ' := (S, (ul M 1023 (vp_updL (al M 1023) (Int32.toNatClampNeg x4) (0 : Int64))), O)) (rfl) ?_
    exact Ex_mono (L := [some (.ref 1000), some (.int x1), some (.int x2), some (.int x3), some (.int (x4 + (1 : Int32))), none]) (Le_s (Le_s (Le_s (Le_s (Le_s (Le_n (Le_0))))))) (ih _ _ _ _ _ _ _ hF) (Nat.le_refl _) (by omega)
def F_m_tellSums_30 : Nat → Int32 → Int32 → Int32 → Sto → Option (Unit × Sto)
  | 0, _, _, _, _ => none
  | n + 1, x1, x2, x3, M => if x1 ≤ x3 then some ((), M) else F_m_tellSums_38 (F_m_tellSums_30 n) FU x1 x2 x3 (0 : Int32) M
set_option maxRecDepth 100000 in
theorem X_m_tellSums_30 {nL : Nat} {xs : Nat → Int32} {S : Sto} {O : Sto} {d : Nat} (hd : 1 ≤ d) : ∀ n : Nat, ∀ (x1 : Int32) (x2 : Int32) (x3 : Int32) (M : Sto) (r : Unit) (M' : Sto), F_m_tellSums_30 n x1 x2 x3 M = some (r, M') → EX nL xs 0 MI_235 d 30 [some (.ref 1000), some (.int x1), some (.int x2), some (.int x3), none, none] [] (S, M, O) (.inl none) (S, M', O) := by
  intro n
  induction n with
  | zero => intro x1 x2 x3 M r M' hF; cases hF
  | succ n ih =>
  intro x1 x2 x3 M r M' hF
  unfold F_m_tellSums_30 at hF
  refine Ex_go 3 (pc' := if x1 ≤ x3 then 146 else 35) (L' := [some (.ref 1000), some (.int x1), some (.int x2), some (.int x3), none, none]) (st' := []) (σ' := (S, M, O)) (rfl) ?_
  refine Ex_br (fun hc => ?_) (fun hc => ?_)
  · rw [if_pos hc] at hF
    cases hF
    exact Ex_fin rfl
  · rw [if_neg hc] at hF
    refine Ex_go 2 (pc' := 38) (L' := [some (.ref 1000), some (.int x1), some (.int x2), some (.int x3), some (.int (0 : Int32)), none]) (st' := []) (σ' := (S, M, O)) (rfl) ?_
    exact Ex_mono (L := [some (.ref 1000), some (.int x1), some (.int x2), some (.int x3), some (.int (0 : Int32)), none]) (Le_s (Le_s (Le_s (Le_s (Le_s (Le_n (Le_0))))))) (X_m_tellSums_38 hd ih FU _ _ _ _ _ _ _ hF) (Nat.le_refl _) (by omega)
def F_m_tellSums_2 : Nat → Int32 → Int32 → Int32 → Sto → Option (Unit × Sto)
  | 0, _, _, _, _ => none
  | n + 1, x1, x2, x3, M => if x2 ≤ x3 then F_m_tellSums_30 FU x1 x2 (0 : Int32) M else if x3 = 0 then F_m_tellSums_21 (F_m_tellSums_2 n) x1 x2 x3 x3 (1 : Int64) M else F_m_tellSums_21 (F_m_tellSums_2 n) x1 x2 x3 x3 (0 : Int64) M
set_option maxRecDepth 100000 in
theorem X_m_tellSums_2 {nL : Nat} {xs : Nat → Int32} {S : Sto} {O : Sto} {d : Nat} (hd : 1 ≤ d) : ∀ n : Nat, ∀ (x1 : Int32) (x2 : Int32) (x3 : Int32) (M : Sto) (r : Unit) (M' : Sto), F_m_tellSums_2 n x1 x2 x3 M = some (r, M') → EX nL xs 0 MI_235 d 2 [some (.ref 1000), some (.int x1), some (.int x2), some (.int x3), none, none] [] (S, M, O) (.inl none) (S, M', O) := by
  intro n
  induction n with
  | zero => intro x1 x2 x3 M r M' hF; cases hF
  | succ n ih =>
  intro x1 x2 x3 M r M' hF
  unfold F_m_tellSums_2 at hF
  refine Ex_go 3 (pc' := if x2 ≤ x3 then 28 else 7) (L' := [some (.ref 1000), some (.int x1), some (.int x2), some (.int x3), none, none]) (st' := []) (σ' := (S, M, O)) (rfl) ?_
  refine Ex_br (fun hc => ?_) (fun hc => ?_)
  · rw [if_pos hc] at hF
    refine Ex_go 2 (pc' := 30) (L' := [some (.ref 1000), some (.int x1), some (.int x2), some (.int (0 : Int32)), none, none]) (st' := []) (σ' := (S, M, O)) (rfl) ?_
    exact Ex_mono (L := [some (.ref 1000), some (.int x1), some (.int x2), some (.int (0 : Int32)), none, none]) (Le_s (Le_s (Le_s (Le_s (Le_n (Le_n (Le_0))))))) (X_m_tellSums_30 hd FU _ _ _ _ _ _ hF) (Nat.le_refl _) (by omega)
  · rw [if_neg hc] at hF
    refine Ex_go 5 (pc' := if ¬ x3 = 0 then 20 else 16) (L' := [some (.ref 1000), some (.int x1), some (.int x2), some (.int x3), none, none]) (st' := [.int x3, .ref 1022]) (σ' := (S, M, O)) (rfl) ?_
    refine Ex_brN (fun hc => ?_) (fun hc => ?_)
    · rw [if_pos hc] at hF
      refine Ex_go 2 (pc' := 21) (L' := [some (.ref 1000), some (.int x1), some (.int x2), some (.int x3), none, none]) (st' := [.long (1 : Int64), .int x3, .ref 1022]) (σ' := (S, M, O)) (rfl) ?_
      exact Ex_mono (L := [some (.ref 1000), some (.int x1), some (.int x2), some (.int x3), none, none]) (Le_s (Le_s (Le_s (Le_s (Le_n (Le_n (Le_0))))))) (X_m_tellSums_21 hd ih _ _ _ _ _ _ _ _ hF) (Nat.le_refl _) (by omega)
    · rw [if_neg hc] at hF
      refine Ex_go 1 (pc' := 21) (L' := [some (.ref 1000), some (.int x1), some (.int x2), some (.int x3), none, none]) (st' := [.long (0 : Int64), .int x3, .ref 1022]) (σ' := (S, M, O)) (rfl) ?_
      exact Ex_mono (L := [some (.ref 1000), some (.int x1), some (.int x2), some (.int x3), none, none]) (Le_s (Le_s (Le_s (Le_s (Le_n (Le_n (Le_0))))))) (X_m_tellSums_21 hd ih _ _ _ _ _ _ _ _ hF) (Nat.le_refl _) (by omega)
def F_m_tellSums (x1 : Int32) (x2 : Int32) (M : Sto) : Option (Unit × Sto) := F_m_tellSums_2 FU x1 x2 (0 : Int32) M
set_option maxRecDepth 100000 in
theorem X_m_tellSums {nL : Nat} {xs : Nat → Int32} {S : Sto} {O : Sto} {d : Nat} (hd : 1 ≤ d) : ∀ (x1 : Int32) (x2 : Int32) (M : Sto) (r : Unit) (M' : Sto), F_m_tellSums x1 x2 M = some (r, M') → EX nL xs 0 MI_235 d 0 [some (.ref 1000), some (.int x1), some (.int x2), none, none, none] [] (S, M, O) (.inl none) (S, M', O) := by
  intro x1 x2 M r M' hF
  unfold F_m_tellSums at hF
  refine Ex_go 2 (pc' := 2) (L' := [some (.ref 1000), some (.int x1), some (.int x2), some (.int (0 : Int32)), none, none]) (st' := []) (σ' := (S, M, O)) (rfl) ?_
  exact Ex_mono (L := [some (.ref 1000), some (.int x1), some (.int x2), some (.int (0 : Int32)), none, none]) (Le_s (Le_s (Le_s (Le_s (Le_n (Le_n (Le_0))))))) (X_m_tellSums_2 hd FU _ _ _ _ _ _ hF) (Nat.le_refl _) (by omega)
def F_m_sums_38 (M : Sto) : Option (Int64 × Sto) := b2 (F_m_fail (1 : Int32) M) (fun r1 M3 => some ((Int32.toInt64 r1), M3))
set_option maxRecDepth 100000 in
theorem X_m_sums_38 {nL : Nat} {xs : Nat → Int32} {S : Sto} {O : Sto} {d : Nat} (hd : 3 ≤ d) : ∀ (M : Sto) (r : Int64) (M' : Sto), F_m_sums_38 M = some (r, M') → EX nL xs 0 MI_236 d 38 [some (.ref 1000), none, none, none, none, none, none, none, none, none] [] (S, M, O) (.inl (some (.long r))) (S, M', O) := by
  intro M r M' hF
  unfold F_m_sums_38 at hF
  refine Ex_go 2 (pc' := 40) (L' := [some (.ref 1000), none, none, none, none, none, none, none, none, none]) (st' := [.int (1 : Int32), .ref 1000]) (σ' := (S, M, O)) (rfl) ?_
  obtain ⟨r1, M3, hx2, hF⟩ := b2_i hF
  refine Ex_call (kind := 2) (y := 50) (as := [.ref 1000, .int (1 : Int32)]) (rest := []) (L0 := [some (.ref 1000), some (.int (1 : Int32))]) (d' := 1) (v := some (.int r1)) (σ1 := (S, M3, O)) rfl rfl mt_50 rfl rfl (by omega) (X_m_fail (Nat.le_refl _) _ _ _ _ hx2) (Ex_st (st2 := [.int r1]) rfl ?_)
  refine Ex_go 1 (pc' := 44) (L' := [some (.ref 1000), none, none, none, none, none, none, none, none, none]) (st' := [.long (Int32.toInt64 r1)]) (σ' := (S, M3, O)) (rfl) ?_
  cases hF
  exact Ex_fin rfl
def F_m_sums_79 (k64 : Int32 → Int32 → Int64 → Int32 → Int32 → Sto → Option (Int64 × Sto)) : Nat → Int32 → Int32 → Int64 → Int32 → Int32 → Int32 → Sto → Option (Int64 × Sto)
  | 0, _, _, _, _, _, _, _ => none
  | n + 1, x3, x4, x5, x7, x8, x9, M => ck (ib x8 17) (if (ai M 1024 (Int32.toNatClampNeg x8)) ≤ x9 then ck (ib x8 17) (k64 x3 x4 x5 (x7 + (ai M 1024 (Int32.toNatClampNeg x8))) (x8 + (-1 : Int32)) M) else ck (nzI x3) (ck (nzI x3) (ck (ib (((((x4 - x7) - x9) - ((x4 - x7) - x9) / x3 * x3) + x3) - ((((x4 - x7) - x9) - ((x4 - x7) - x9) / x3 * x3) + x3) / x3 * x3) 51) (nm (x5 + (al M 1022 (Int32.toNatClampNeg (((((x4 - x7) - x9) - ((x4 - x7) - x9) / x3 * x3) + x3) - ((((x4 - x7) - x9) - ((x4 - x7) - x9) / x3 * x3) + x3) / x3 * x3)))) (fun t6 => F_m_sums_79 k64 n x3 x4 t6 x7 x8 (x9 + (1 : Int32)) M)))))
set_option maxRecDepth 100000 in
theorem X_m_sums_79 {nL : Nat} {xs : Nat → Int32} {S : Sto} {O : Sto} {d : Nat} (hd : 3 ≤ d) {k64 : Int32 → Int32 → Int64 → Int32 → Int32 → Sto → Option (Int64 × Sto)} (hk64 : ∀ (x3 : Int32) (x4 : Int32) (x5 : Int64) (x7 : Int32) (x8 : Int32) (M : Sto) (r : Int64) (M' : Sto), k64 x3 x4 x5 x7 x8 M = some (r, M') → EX nL xs 0 MI_236 d 64 [some (.ref 1000), none, none, some (.int x3), some (.int x4), some (.long x5), none, some (.int x7), some (.int x8), none] [] (S, M, O) (.inl (some (.long r))) (S, M', O)) : ∀ n : Nat, ∀ (x3 : Int32) (x4 : Int32) (x5 : Int64) (x7 : Int32) (x8 : Int32) (x9 : Int32) (M : Sto) (r : Int64) (M' : Sto), F_m_sums_79 k64 n x3 x4 x5 x7 x8 x9 M = some (r, M') → EX nL xs 0 MI_236 d 79 [some (.ref 1000), none, none, some (.int x3), some (.int x4), some (.long x5), none, some (.int x7), some (.int x8), some (.int x9)] [] (S, M, O) (.inl (some (.long r))) (S, M', O) := by
  intro n
  induction n with
  | zero => intro x3 x4 x5 x7 x8 x9 M r M' hF; cases hF
  | succ n ih =>
  intro x3 x4 x5 x7 x8 x9 M r M' hF
  unfold F_m_sums_79 at hF
  refine Ex_go 4 (pc' := 87) (L' := [some (.ref 1000), none, none, some (.int x3), some (.int x4), some (.long x5), none, some (.int x7), some (.int x8), some (.int x9)]) (st' := [.int x8, .ref 1024, .int x9]) (σ' := (S, M, O)) (rfl) ?_
  obtain ⟨hc1, hF⟩ := ck_i hF
  refine Ex_chk (b := ib x8 17) (pc' := 88) (L' := [some (.ref 1000), none, none, some (.int x3), some (.int x4), some (.long x5), none, some (.int x7), some (.int x8), some (.int x9)]) (st' := [.int (ai M 1024 (Int32.toNatClampNeg x8)), .int x9]) (σ' := (S, M, O)) rfl hc1 ?_
  refine Ex_go 1 (pc' := if (ai M 1024 (Int32.toNatClampNeg x8)) ≤ x9 then 121 else 91) (L' := [some (.ref 1000), none, none, some (.int x3), some (.int x4), some (.long x5), none, some (.int x7), some (.int x8), some (.int x9)]) (st' := []) (σ' := (S, M, O)) (rfl) ?_
  refine Ex_br (fun hc => ?_) (fun hc => ?_)
  · rw [if_pos hc] at hF
    refine Ex_go 4 (pc' := 129) (L' := [some (.ref 1000), none, none, some (.int x3), some (.int x4), some (.long x5), none, some (.int x7), some (.int x8), some (.int x9)]) (st' := [.int x8, .ref 1024, .int x7]) (σ' := (S, M, O)) (rfl) ?_
    obtain ⟨hc2, hF⟩ := ck_i hF
    refine Ex_chk (b := ib x8 17) (pc' := 130) (L' := [some (.ref 1000), none, none, some (.int x3), some (.int x4), some (.long x5), none, some (.int x7), some (.int x8), some (.int x9)]) (st' := [.int (ai M 1024 (Int32.toNatClampNeg x8)), .int x7]) (σ' := (S, M, O)) rfl hc2 ?_
    refine Ex_go 4 (pc' := 64) (L' := [some (.ref 1000), none, none, some (.int x3), some (.int x4), some (.long x5), none, some (.int (x7 + (ai M 1024 (Int32.toNatClampNeg x8)))), some (.int (x8 + (-1 : Int32))), some (.int x9)]) (st' := []) (σ' := (S, M, O)) (rfl) ?_
    exact Ex_mono (L := [some (.ref 1000), none, none, some (.int x3), some (.int x4), some (.long x5), none, some (.int (x7 + (ai M 1024 (Int32.toNatClampNeg x8)))), some (.int (x8 + (-1 : Int32))), none]) (Le_s (Le_n (Le_n (Le_s (Le_s (Le_s (Le_n (Le_s (Le_s (Le_n (Le_0))))))))))) (hk64 _ _ _ _ _ _ _ _ hF) (Nat.le_refl _) (by omega)
  · rw [if_neg hc] at hF
    refine Ex_go 9 (pc' := 106) (L' := [some (.ref 1000), none, none, some (.int x3), some (.int x4), some (.long x5), none, some (.int x7), some (.int x8), some (.int x9)]) (st' := [.int x3, .int ((x4 - x7) - x9), .ref 1022, .long x5]) (σ' := (S, M, O)) (rfl) ?_
    obtain ⟨hc3, hF⟩ := ck_i hF
    refine Ex_chk (b := nzI x3) (pc' := 107) (L' := [some (.ref 1000), none, none, some (.int x3), some (.int x4), some (.long x5), none, some (.int x7), some (.int x8), some (.int x9)]) (st' := [.int (((x4 - x7) - x9) - ((x4 - x7) - x9) / x3 * x3), .ref 1022, .long x5]) (σ' := (S, M, O)) rfl hc3 ?_
    refine Ex_go 3 (pc' := 110) (L' := [some (.ref 1000), none, none, some (.int x3), some (.int x4), some (.long x5), none, some (.int x7), some (.int x8), some (.int x9)]) (st' := [.int x3, .int ((((x4 - x7) - x9) - ((x4 - x7) - x9) / x3 * x3) + x3), .ref 1022, .long x5]) (σ' := (S, M, O)) (rfl) ?_
    obtain ⟨hc4, hF⟩ := ck_i hF
    refine Ex_chk (b := nzI x3) (pc' := 111) (L' := [some (.ref 1000), none, none, some (.int x3), some (.int x4), some (.long x5), none, some (.int x7), some (.int x8), some (.int x9)]) (st' := [.int (((((x4 - x7) - x9) - ((x4 - x7) - x9) / x3 * x3) + x3) - ((((x4 - x7) - x9) - ((x4 - x7) - x9) / x3 * x3) + x3) / x3 * x3), .ref 1022, .long x5]) (σ' := (S, M, O)) rfl hc4 ?_
    obtain ⟨hc5, hF⟩ := ck_i hF
    refine Ex_chk (b := ib (((((x4 - x7) - x9) - ((x4 - x7) - x9) / x3 * x3) + x3) - ((((x4 - x7) - x9) - ((x4 - x7) - x9) / x3 * x3) + x3) / x3 * x3) 51) (pc' := 112) (L' := [some (.ref 1000), none, none, some (.int x3), some (.int x4), some (.long x5), none, some (.int x7), some (.int x8), some (.int x9)]) (st' := [.long (al M 1022 (Int32.toNatClampNeg (((((x4 - x7) - x9) - ((x4 - x7) - x9) / x3 * x3) + x3) - ((((x4 - x7) - x9) - ((x4 - x7) - x9) / x3 * x3) + x3) / x3 * x3))), .long x5]) (σ' := (S, M, O)) rfl hc5 ?_
    obtain ⟨t6, ht7, hF⟩ := nm_i hF
    refine Ex_go 2 (pc' := 115) (L' := [some (.ref 1000), none, none, some (.int x3), some (.int x4), some (.long t6), none, some (.int x7), some (.int x8), some (.int x9)]) (st' := []) (σ' := (S, M, O)) (by rw [ht7]; rfl) ?_
    refine Ex_go 2 (pc' := 79) (L' := [some (.ref 1000), none, none, some (.int x3), some (.int x4), some (.long t6), none, some (.int x7), some (.int x8), some (.int (x9 + (1 : Int32)))]) (st' := []) (σ' := (S, M, O)) (rfl) ?_
    exact Ex_mono (L := [some (.ref 1000), none, none, some (.int x3), some (.int x4), some (.long t6), none, some (.int x7), some (.int x8), some (.int (x9 + (1 : Int32)))]) (Le_s (Le_n (Le_n (Le_s (Le_s (Le_s (Le_n (Le_s (Le_s (Le_s (Le_0))))))))))) (ih _ _ _ _ _ _ _ _ _ hF) (Nat.le_refl _) (by omega)
def F_m_sums_155 (x4 : Int32) (s0 : Int64) (s1 : Int64) (M : Sto) : Option (Int64 × Sto) := if x4 = 0 then some (((s0 + s1) - (1 : Int64)), M) else some ((s0 + s1), M)
set_option maxRecDepth 100000 in
theorem X_m_sums_155 {nL : Nat} {xs : Nat → Int32} {S : Sto} {O : Sto} {d : Nat} (hd : 3 ≤ d) : ∀ (x4 : Int32) (s0 : Int64) (s1 : Int64) (M : Sto) (r : Int64) (M' : Sto), F_m_sums_155 x4 s0 s1 M = some (r, M') → EX nL xs 0 MI_236 d 155 [none, none, none, none, some (.int x4), none, none, none, none, none] [.long s1, .long s0] (S, M, O) (.inl (some (.long r))) (S, M', O) := by
  intro x4 s0 s1 M r M' hF
  unfold F_m_sums_155 at hF
  refine Ex_go 4 (pc' := if ¬ x4 = 0 then 170 else 163) (L' := [none, none, none, none, some (.int x4), some (.long (s0 + s1)), none, none, none, none]) (st' := []) (σ' := (S, M, O)) (rfl) ?_
  refine Ex_brN (fun hc => ?_) (fun hc => ?_)
  · rw [if_pos hc] at hF
    refine Ex_go 4 (pc' := 172) (L' := [none, none, none, none, some (.int x4), some (.long (s0 + s1)), none, none, none, none]) (st' := [.long ((s0 + s1) - (1 : Int64))]) (σ' := (S, M, O)) (rfl) ?_
    cases hF
    exact Ex_fin rfl
  · rw [if_neg hc] at hF
    refine Ex_go 1 (pc' := 172) (L' := [none, none, none, none, some (.int x4), some (.long (s0 + s1)), none, none, none, none]) (st' := [.long (s0 + s1)]) (σ' := (S, M, O)) (rfl) ?_
    cases hF
    exact Ex_fin rfl
def F_m_sums_64 : Nat → Int32 → Int32 → Int64 → Int32 → Int32 → Sto → Option (Int64 × Sto)
  | 0, _, _, _, _, _, _ => none
  | n + 1, x3, x4, x5, x7, x8, M => if x8 < 0 then ck (nzI x3) (if (x7 - x7 / x3 * x3) = x4 then F_m_sums_155 x4 x5 (1 : Int64) M else F_m_sums_155 x4 x5 (0 : Int64) M) else b2 (F_m_tellSums x8 x3 M) (fun r2 M4 => F_m_sums_79 (F_m_sums_64 n) FU x3 x4 x5 x7 x8 (0 : Int32) M4)
set_option maxRecDepth 100000 in
theorem X_m_sums_64 {nL : Nat} {xs : Nat → Int32} {S : Sto} {O : Sto} {d : Nat} (hd : 3 ≤ d) : ∀ n : Nat, ∀ (x3 : Int32) (x4 : Int32) (x5 : Int64) (x7 : Int32) (x8 : Int32) (M : Sto) (r : Int64) (M' : Sto), F_m_sums_64 n x3 x4 x5 x7 x8 M = some (r, M') → EX nL xs 0 MI_236 d 64 [some (.ref 1000), none, none, some (.int x3), some (.int x4), some (.long x5), none, some (.int x7), some (.int x8), none] [] (S, M, O) (.inl (some (.long r))) (S, M', O) := by
  intro n
  induction n with
  | zero => intro x3 x4 x5 x7 x8 M r M' hF; cases hF
  | succ n ih =>
  intro x3 x4 x5 x7 x8 M r M' hF
  unfold F_m_sums_64 at hF
  refine Ex_go 2 (pc' := if x8 < 0 then 139 else 69) (L' := [some (.ref 1000), none, none, some (.int x3), some (.int x4), some (.long x5), none, some (.int x7), some (.int x8), none]) (st' := []) (σ' := (S, M, O)) (rfl) ?_
  refine Ex_br (fun hc => ?_) (fun hc => ?_)
  · rw [if_pos hc] at hF
    refine Ex_go 3 (pc' := 144) (L' := [some (.ref 1000), none, none, some (.int x3), some (.int x4), some (.long x5), none, some (.int x7), some (.int x8), none]) (st' := [.int x3, .int x7, .long x5]) (σ' := (S, M, O)) (rfl) ?_
    obtain ⟨hc1, hF⟩ := ck_i hF
    refine Ex_chk (b := nzI x3) (pc' := 145) (L' := [some (.ref 1000), none, none, some (.int x3), some (.int x4), some (.long x5), none, some (.int x7), some (.int x8), none]) (st' := [.int (x7 - x7 / x3 * x3), .long x5]) (σ' := (S, M, O)) rfl hc1 ?_
    refine Ex_go 2 (pc' := if ¬ (x7 - x7 / x3 * x3) = x4 then 154 else 150) (L' := [some (.ref 1000), none, none, some (.int x3), some (.int x4), some (.long x5), none, some (.int x7), some (.int x8), none]) (st' := [.long x5]) (σ' := (S, M, O)) (rfl) ?_
    refine Ex_brN (fun hc => ?_) (fun hc => ?_)
    · rw [if_pos hc] at hF
      refine Ex_go 2 (pc' := 155) (L' := [some (.ref 1000), none, none, some (.int x3), some (.int x4), some (.long x5), none, some (.int x7), some (.int x8), none]) (st' := [.long (1 : Int64), .long x5]) (σ' := (S, M, O)) (rfl) ?_
      exact Ex_mono (L := [none, none, none, none, some (.int x4), none, none, none, none, none]) (Le_n (Le_n (Le_n (Le_n (Le_s (Le_n (Le_n (Le_n (Le_n (Le_n (Le_0))))))))))) (X_m_sums_155 hd _ _ _ _ _ _ hF) (Nat.le_refl _) (by omega)
    · rw [if_neg hc] at hF
      refine Ex_go 1 (pc' := 155) (L' := [some (.ref 1000), none, none, some (.int x3), some (.int x4), some (.long x5), none, some (.int x7), some (.int x8), none]) (st' := [.long (0 : Int64), .long x5]) (σ' := (S, M, O)) (rfl) ?_
      exact Ex_mono (L := [none, none, none, none, some (.int x4), none, none, none, none, none]) (Le_n (Le_n (Le_n (Le_n (Le_s (Le_n (Le_n (Le_n (Le_n (Le_n (Le_0))))))))))) (X_m_sums_155 hd _ _ _ _ _ _ hF) (Nat.le_refl _) (by omega)
  · rw [if_neg hc] at hF
    refine Ex_go 3 (pc' := 73) (L' := [some (.ref 1000), none, none, some (.int x3), some (.int x4), some (.long x5), none, some (.int x7), some (.int x8), none]) (st' := [.int x3, .int x8, .ref 1000]) (σ' := (S, M, O)) (rfl) ?_
    obtain ⟨r2, M4, hx3, hF⟩ := b2_i hF
    refine Ex_call (kind := 2) (y := 235) (as := [.ref 1000, .int x8, .int x3]) (rest := []) (L0 := [some (.ref 1000), some (.int x8), some (.int x3), none, none, none]) (d' := 1) (v := none) (σ1 := (S, M4, O)) rfl rfl mt_235 rfl rfl (by omega) (X_m_tellSums (Nat.le_refl _) _ _ _ _ _ hx3) (Ex_st (st2 := []) rfl ?_)
    refine Ex_go 2 (pc' := 79) (L' := [some (.ref 1000), none, none, some (.int x3), some (.int x4), some (.long x5), none, some (.int x7), some (.int x8), some (.int (0 : Int32))]) (st' := []) (σ' := (S, M4, O)) (rfl) ?_
    exact Ex_mono (L := [some (.ref 1000), none, none, some (.int x3), some (.int x4), some (.long x5), none, some (.int x7), some (.int x8), some (.int (0 : Int32))]) (Le_s (Le_n (Le_n (Le_s (Le_s (Le_s (Le_n (Le_s (Le_s (Le_s (Le_0))))))))))) (X_m_sums_79 hd ih FU _ _ _ _ _ _ _ _ _ hF) (Nat.le_refl _) (by omega)
def F_m_sums (x1 : Int64) (x3 : Int32) (x4 : Int32) (M : Sto) : Option (Int64 × Sto) := b1 (F_m_isLicence x1) (fun r1 => if r1 = 0 then F_m_sums_38 (si M 1001 (0 : Int32)) else b1 (F_m_isIn (Int32.toInt64 x3) (1 : Int64) (50 : Int64)) (fun r3 => if r3 = 0 then F_m_sums_38 (si M 1001 (0 : Int32)) else b1 (F_m_isIn (Int32.toInt64 x4) (0 : Int64) (Int32.toInt64 (x3 - (1 : Int32)))) (fun r5 => if r5 = 0 then F_m_sums_38 (si M 1001 (0 : Int32)) else b2 (F_m_tellFigures x1 (si M 1001 (0 : Int32))) (fun r7 M9 => F_m_sums_64 FU x3 x4 (0 : Int64) (0 : Int32) ((gi M9 1028) - (1 : Int32)) M9))))
set_option maxRecDepth 100000 in
theorem X_m_sums {nL : Nat} {xs : Nat → Int32} {S : Sto} {O : Sto} {d : Nat} (hd : 3 ≤ d) : ∀ (x1 : Int64) (x3 : Int32) (x4 : Int32) (M : Sto) (r : Int64) (M' : Sto), F_m_sums x1 x3 x4 M = some (r, M') → EX nL xs 0 MI_236 d 0 [some (.ref 1000), some (.long x1), none, some (.int x3), some (.int x4), none, none, none, none, none] [] (S, M, O) (.inl (some (.long r))) (S, M', O) := by
  intro x1 x3 x4 M r M' hF
  unfold F_m_sums at hF
  refine Ex_go 4 (pc' := 6) (L' := [some (.ref 1000), some (.long x1), none, some (.int x3), some (.int x4), none, none, none, none, none]) (st' := [.long x1]) (σ' := (S, (si M 1001 (0 : Int32)), O)) (rfl) ?_
  obtain ⟨r1, hx2, hF⟩ := b1_i hF
  refine Ex_call (kind := 0) (y := 233) (as := [.long x1]) (rest := []) (L0 := [some (.long x1), none]) (d' := 2) (v := some (.int r1)) (σ1 := (S, (si M 1001 (0 : Int32)), O)) rfl rfl mt_233 rfl rfl (by omega) (X_m_isLicence (Nat.le_refl _) _ _ hx2) (Ex_st (st2 := [.int r1]) rfl ?_)
  refine Ex_go 1 (pc' := if r1 = 0 then 38 else 12) (L' := [some (.ref 1000), some (.long x1), none, some (.int x3), some (.int x4), none, none, none, none, none]) (st' := []) (σ' := (S, (si M 1001 (0 : Int32)), O)) (rfl) ?_
  refine Ex_br (fun hc => ?_) (fun hc => ?_)
  · rw [if_pos hc] at hF
    exact Ex_mono (L := [some (.ref 1000), none, none, none, none, none, none, none, none, none]) (Le_s (Le_n (Le_n (Le_n (Le_n (Le_n (Le_n (Le_n (Le_n (Le_n (Le_0))))))))))) (X_m_sums_38 hd _ _ _ hF) (Nat.le_refl _) (by omega)
  · rw [if_neg hc] at hF
    refine Ex_go 4 (pc' := 18) (L' := [some (.ref 1000), some (.long x1), none, some (.int x3), some (.int x4), none, none, none, none, none]) (st' := [.long (50 : Int64), .long (1 : Int64), .long (Int32.toInt64 x3)]) (σ' := (S, (si M 1001 (0 : Int32)), O)) (rfl) ?_
    obtain ⟨r3, hx4, hF⟩ := b1_i hF
    refine Ex_call (kind := 0) (y := 91) (as := [.long (Int32.toInt64 x3), .long (1 : Int64), .long (50 : Int64)]) (rest := []) (L0 := [some (.long (Int32.toInt64 x3)), none, some (.long (1 : Int64)), none, some (.long (50 : Int64)), none]) (d' := 1) (v := some (.int r3)) (σ1 := (S, (si M 1001 (0 : Int32)), O)) rfl rfl mt_91 rfl rfl (by omega) (X_m_isIn (Nat.le_refl _) _ _ _ _ hx4) (Ex_st (st2 := [.int r3]) rfl ?_)
    refine Ex_go 1 (pc' := if r3 = 0 then 38 else 24) (L' := [some (.ref 1000), some (.long x1), none, some (.int x3), some (.int x4), none, none, none, none, none]) (st' := []) (σ' := (S, (si M 1001 (0 : Int32)), O)) (rfl) ?_
    refine Ex_br (fun hc => ?_) (fun hc => ?_)
    · rw [if_pos hc] at hF
      exact Ex_mono (L := [some (.ref 1000), none, none, none, none, none, none, none, none, none]) (Le_s (Le_n (Le_n (Le_n (Le_n (Le_n (Le_n (Le_n (Le_n (Le_n (Le_0))))))))))) (X_m_sums_38 hd _ _ _ hF) (Nat.le_refl _) (by omega)
    · rw [if_neg hc] at hF
      refine Ex_go 7 (pc' := 32) (L' := [some (.ref 1000), some (.long x1), none, some (.int x3), some (.int x4), none, none, none, none, none]) (st' := [.long (Int32.toInt64 (x3 - (1 : Int32))), .long (0 : Int64), .long (Int32.toInt64 x4)]) (σ' := (S, (si M 1001 (0 : Int32)), O)) (rfl) ?_
      obtain ⟨r5, hx6, hF⟩ := b1_i hF
      refine Ex_call (kind := 0) (y := 91) (as := [.long (Int32.toInt64 x4), .long (0 : Int64), .long (Int32.toInt64 (x3 - (1 : Int32)))]) (rest := []) (L0 := [some (.long (Int32.toInt64 x4)), none, some (.long (0 : Int64)), none, some (.long (Int32.toInt64 (x3 - (1 : Int32)))), none]) (d' := 1) (v := some (.int r5)) (σ1 := (S, (si M 1001 (0 : Int32)), O)) rfl rfl mt_91 rfl rfl (by omega) (X_m_isIn (Nat.le_refl _) _ _ _ _ hx6) (Ex_st (st2 := [.int r5]) rfl ?_)
      refine Ex_go 1 (pc' := if ¬ r5 = 0 then 45 else 38) (L' := [some (.ref 1000), some (.long x1), none, some (.int x3), some (.int x4), none, none, none, none, none]) (st' := []) (σ' := (S, (si M 1001 (0 : Int32)), O)) (rfl) ?_
      refine Ex_brN (fun hc => ?_) (fun hc => ?_)
      · rw [if_pos hc] at hF
        exact Ex_mono (L := [some (.ref 1000), none, none, none, none, none, none, none, none, none]) (Le_s (Le_n (Le_n (Le_n (Le_n (Le_n (Le_n (Le_n (Le_n (Le_n (Le_0))))))))))) (X_m_sums_38 hd _ _ _ hF) (Nat.le_refl _) (by omega)
      · rw [if_neg hc] at hF
        refine Ex_go 2 (pc' := 47) (L' := [some (.ref 1000), some (.long x1), none, some (.int x3), some (.int x4), none, none, none, none, none]) (st' := [.long x1, .ref 1000]) (σ' := (S, (si M 1001 (0 : Int32)), O)) (rfl) ?_
        obtain ⟨r7, M9, hx8, hF⟩ := b2_i hF
        refine Ex_call (kind := 2) (y := 234) (as := [.ref 1000, .long x1]) (rest := []) (L0 := [some (.ref 1000), some (.long x1), none, none, none]) (d' := 1) (v := none) (σ1 := (S, M9, O)) rfl rfl mt_234 rfl rfl (by omega) (X_m_tellFigures (Nat.le_refl _) _ _ _ _ hx8) (Ex_st (st2 := []) rfl ?_)
        refine Ex_go 9 (pc' := 64) (L' := [some (.ref 1000), some (.long x1), none, some (.int x3), some (.int x4), some (.long (0 : Int64)), none, some (.int (0 : Int32)), some (.int ((gi M9 1028) - (1 : Int32))), none]) (st' := []) (σ' := (S, M9, O)) (rfl) ?_
        exact Ex_mono (L := [some (.ref 1000), none, none, some (.int x3), some (.int x4), some (.long (0 : Int64)), none, some (.int (0 : Int32)), some (.int ((gi M9 1028) - (1 : Int32))), none]) (Le_s (Le_n (Le_n (Le_s (Le_s (Le_s (Le_n (Le_s (Le_s (Le_n (Le_0))))))))))) (X_m_sums_64 hd FU _ _ _ _ _ _ _ _ hF) (Nat.le_refl _) (by omega)
def F_w_hasPartBelow_47 (k4 : Int32 → Int32 → Int64 → Option Int32) (x0 : Int32) (x1 : Int32) (s0 : Int64) (s1 : Int64) : Option Int32 := k4 x0 x1 (s0 + s1)
set_option maxRecDepth 100000 in
theorem X_w_hasPartBelow_47 {nL : Nat} {xs : Nat → Int32} {S : Sto} {M : Sto} {O : Sto} {d : Nat} (hd : 1 ≤ d) {k4 : Int32 → Int32 → Int64 → Option Int32} (hk4 : ∀ (x0 : Int32) (x1 : Int32) (x2 : Int64) (r : Int32), k4 x0 x1 x2 = some r → EX nL xs 0 MI_218 d 4 [some (.int x0), some (.int x1), some (.long x2), none] [] (S, M, O) (.inl (some (.int r))) (S, M, O)) : ∀ (x0 : Int32) (x1 : Int32) (s0 : Int64) (s1 : Int64) (r : Int32), F_w_hasPartBelow_47 k4 x0 x1 s0 s1 = some r → EX nL xs 0 MI_218 d 47 [some (.int x0), some (.int x1), none, none] [.long s1, .long s0] (S, M, O) (.inl (some (.int r))) (S, M, O) := by
  intro x0 x1 s0 s1 r hF
  unfold F_w_hasPartBelow_47 at hF
  refine Ex_go 3 (pc' := 4) (L' := [some (.int x0), some (.int x1), some (.long (s0 + s1)), none]) (st' := []) (σ' := (S, M, O)) (rfl) ?_
  exact Ex_mono (L := [some (.int x0), some (.int x1), some (.long (s0 + s1)), none]) (Le_s (Le_s (Le_s (Le_n (Le_0))))) (hk4 _ _ _ _ hF) (Nat.le_refl _) (by omega)
def F_w_hasPartBelow_52 (x0 : Int32) (x1 : Int32) : Option Int32 := if x0 < (2 : Int32) then some (0 : Int32) else if x1 ≤ x0 then some (0 : Int32) else some (1 : Int32)
set_option maxRecDepth 100000 in
theorem X_w_hasPartBelow_52 {nL : Nat} {xs : Nat → Int32} {S : Sto} {M : Sto} {O : Sto} {d : Nat} (hd : 1 ≤ d) : ∀ (x0 : Int32) (x1 : Int32) (r : Int32), F_w_hasPartBelow_52 x0 x1 = some r → EX nL xs 0 MI_218 d 52 [some (.int x0), some (.int x1), none, none] [] (S, M, O) (.inl (some (.int r))) (S, M, O) := by
  intro x0 x1 r hF
  unfold F_w_hasPartBelow_52 at hF
  refine Ex_go 3 (pc' := if x0 < (2 : Int32) then 66 else 57) (L' := [some (.int x0), some (.int x1), none, none]) (st' := []) (σ' := (S, M, O)) (rfl) ?_
  refine Ex_br (fun hc => ?_) (fun hc => ?_)
  · rw [if_pos hc] at hF
    refine Ex_go 1 (pc' := 67) (L' := [some (.int x0), some (.int x1), none, none]) (st' := [.int (0 : Int32)]) (σ' := (S, M, O)) (rfl) ?_
    cases hF
    exact Ex_fin rfl
  · rw [if_neg hc] at hF
    refine Ex_go 3 (pc' := if x1 ≤ x0 then 66 else 62) (L' := [some (.int x0), some (.int x1), none, none]) (st' := []) (σ' := (S, M, O)) (rfl) ?_
    refine Ex_br (fun hc => ?_) (fun hc => ?_)
    · rw [if_pos hc] at hF
      refine Ex_go 1 (pc' := 67) (L' := [some (.int x0), some (.int x1), none, none]) (st' := [.int (0 : Int32)]) (σ' := (S, M, O)) (rfl) ?_
      cases hF
      exact Ex_fin rfl
    · rw [if_neg hc] at hF
      refine Ex_go 2 (pc' := 67) (L' := [some (.int x0), some (.int x1), none, none]) (st' := [.int (1 : Int32)]) (σ' := (S, M, O)) (rfl) ?_
      cases hF
      exact Ex_fin rfl
def F_w_hasPartBelow_4 : Nat → Int32 → Int32 → Int64 → Option Int32
  | 0, _, _, _ => none
  | n + 1, x0, x1, x2 => if (Int32.toInt64 x1) ≤ x2 then F_w_hasPartBelow_52 x0 x1 else if (Int32.toInt64 x0) < (x2 * x2) then F_w_hasPartBelow_52 x0 x1 else ck (nzL x2) (if ((Int32.toInt64 x0) - (Int32.toInt64 x0) / x2 * x2) = (0 : Int64) then some (1 : Int32) else if x2 = (2 : Int64) then F_w_hasPartBelow_47 (F_w_hasPartBelow_4 n) x0 x1 x2 (1 : Int64) else F_w_hasPartBelow_47 (F_w_hasPartBelow_4 n) x0 x1 x2 (2 : Int64))
set_option maxRecDepth 100000 in
theorem X_w_hasPartBelow_4 {nL : Nat} {xs : Nat → Int32} {S : Sto} {M : Sto} {O : Sto} {d : Nat} (hd : 1 ≤ d) : ∀ n : Nat, ∀ (x0 : Int32) (x1 : Int32) (x2 : Int64) (r : Int32), F_w_hasPartBelow_4 n x0 x1 x2 = some r → EX nL xs 0 MI_218 d 4 [some (.int x0), some (.int x1), some (.long x2), none] [] (S, M, O) (.inl (some (.int r))) (S, M, O) := by
  intro n
  induction n with
  | zero => intro x0 x1 x2 r hF; cases hF
  | succ n ih =>
  intro x0 x1 x2 r hF
  unfold F_w_hasPartBelow_4 at hF
  refine Ex_go 5 (pc' := if 0 ≤ (lg_cmp x2 (Int32.toInt64 x1)) then 52 else 11) (L' := [some (.int x0), some (.int x1), some (.long x2), none]) (st' := []) (σ' := (S, M, O)) (rfl) ?_
  refine Ex_brI lc_ge (fun hc => ?_) (fun hc => ?_)
  · rw [if_pos hc] at hF
    exact Ex_mono (L := [some (.int x0), some (.int x1), none, none]) (Le_s (Le_s (Le_n (Le_n (Le_0))))) (X_w_hasPartBelow_52 hd _ _ _ hF) (Nat.le_refl _) (by omega)
  · rw [if_neg hc] at hF
    refine Ex_go 7 (pc' := if 0 < (lg_cmp (x2 * x2) (Int32.toInt64 x0)) then 52 else 20) (L' := [some (.int x0), some (.int x1), some (.long x2), none]) (st' := []) (σ' := (S, M, O)) (rfl) ?_
    refine Ex_brI lc_gt (fun hc => ?_) (fun hc => ?_)
    · rw [if_pos hc] at hF
      exact Ex_mono (L := [some (.int x0), some (.int x1), none, none]) (Le_s (Le_s (Le_n (Le_n (Le_0))))) (X_w_hasPartBelow_52 hd _ _ _ hF) (Nat.le_refl _) (by omega)
    · rw [if_neg hc] at hF
      refine Ex_go 3 (pc' := 23) (L' := [some (.int x0), some (.int x1), some (.long x2), none]) (st' := [.long x2, .long (Int32.toInt64 x0)]) (σ' := (S, M, O)) (rfl) ?_
      obtain ⟨hc1, hF⟩ := ck_i hF
      refine Ex_chk (b := nzL x2) (pc' := 24) (L' := [some (.int x0), some (.int x1), some (.long x2), none]) (st' := [.long ((Int32.toInt64 x0) - (Int32.toInt64 x0) / x2 * x2)]) (σ' := (S, M, O)) rfl hc1 ?_
      refine Ex_go 3 (pc' := if ¬ (lg_cmp ((Int32.toInt64 x0) - (Int32.toInt64 x0) / x2 * x2) (0 : Int64)) = 0 then 31 else 29) (L' := [some (.int x0), some (.int x1), some (.long x2), none]) (st' := []) (σ' := (S, M, O)) (rfl) ?_
      refine Ex_brNI lc_ne (fun hc => ?_) (fun hc => ?_)
      · rw [if_pos hc] at hF
        refine Ex_go 1 (pc' := 30) (L' := [some (.int x0), some (.int x1), some (.long x2), none]) (st' := [.int (1 : Int32)]) (σ' := (S, M, O)) (rfl) ?_
        cases hF
        exact Ex_fin rfl
      · rw [if_neg hc] at hF
        refine Ex_go 5 (pc' := if ¬ (lg_cmp x2 (2 : Int64)) = 0 then 44 else 40) (L' := [some (.int x0), some (.int x1), some (.long x2), none]) (st' := [.long x2]) (σ' := (S, M, O)) (rfl) ?_
        refine Ex_brNI lc_ne (fun hc => ?_) (fun hc => ?_)
        · rw [if_pos hc] at hF
          refine Ex_go 2 (pc' := 47) (L' := [some (.int x0), some (.int x1), some (.long x2), none]) (st' := [.long (1 : Int64), .long x2]) (σ' := (S, M, O)) (rfl) ?_
          exact Ex_mono (L := [some (.int x0), some (.int x1), none, none]) (Le_s (Le_s (Le_n (Le_n (Le_0))))) (X_w_hasPartBelow_47 hd ih _ _ _ _ _ hF) (Nat.le_refl _) (by omega)
        · rw [if_neg hc] at hF
          refine Ex_go 1 (pc' := 47) (L' := [some (.int x0), some (.int x1), some (.long x2), none]) (st' := [.long (2 : Int64), .long x2]) (σ' := (S, M, O)) (rfl) ?_
          exact Ex_mono (L := [some (.int x0), some (.int x1), none, none]) (Le_s (Le_s (Le_n (Le_n (Le_0))))) (X_w_hasPartBelow_47 hd ih _ _ _ _ _ hF) (Nat.le_refl _) (by omega)
def F_w_hasPartBelow (x0 : Int32) (x1 : Int32) : Option Int32 := F_w_hasPartBelow_4 FU x0 x1 (2 : Int64)
set_option maxRecDepth 100000 in
theorem X_w_hasPartBelow {nL : Nat} {xs : Nat → Int32} {S : Sto} {M : Sto} {O : Sto} {d : Nat} (hd : 1 ≤ d) : ∀ (x0 : Int32) (x1 : Int32) (r : Int32), F_w_hasPartBelow x0 x1 = some r → EX nL xs 0 MI_218 d 0 [some (.int x0), some (.int x1), none, none] [] (S, M, O) (.inl (some (.int r))) (S, M, O) := by
  intro x0 x1 r hF
  unfold F_w_hasPartBelow at hF
  refine Ex_go 2 (pc' := 4) (L' := [some (.int x0), some (.int x1), some (.long (2 : Int64)), none]) (st' := []) (σ' := (S, M, O)) (rfl) ?_
  exact Ex_mono (L := [some (.int x0), some (.int x1), some (.long (2 : Int64)), none]) (Le_s (Le_s (Le_s (Le_n (Le_0))))) (X_w_hasPartBelow_4 hd FU _ _ _ _ hF) (Nat.le_refl _) (by omega)
def F_w_isPrime (x0 : Int32) : Option Int32 := if x0 < (2 : Int32) then some (0 : Int32) else b1 (F_w_hasPartBelow x0 x0) (fun r1 => if r1 = 0 then some (1 : Int32) else some (0 : Int32))
set_option maxRecDepth 100000 in
theorem X_w_isPrime {nL : Nat} {xs : Nat → Int32} {S : Sto} {M : Sto} {O : Sto} {d : Nat} (hd : 2 ≤ d) : ∀ (x0 : Int32) (r : Int32), F_w_isPrime x0 = some r → EX nL xs 0 MI_219 d 0 [some (.int x0)] [] (S, M, O) (.inl (some (.int r))) (S, M, O) := by
  intro x0 r hF
  unfold F_w_isPrime at hF
  refine Ex_go 3 (pc' := if x0 < (2 : Int32) then 17 else 5) (L' := [some (.int x0)]) (st' := []) (σ' := (S, M, O)) (rfl) ?_
  refine Ex_br (fun hc => ?_) (fun hc => ?_)
  · rw [if_pos hc] at hF
    refine Ex_go 1 (pc' := 18) (L' := [some (.int x0)]) (st' := [.int (0 : Int32)]) (σ' := (S, M, O)) (rfl) ?_
    cases hF
    exact Ex_fin rfl
  · rw [if_neg hc] at hF
    refine Ex_go 2 (pc' := 7) (L' := [some (.int x0)]) (st' := [.int x0, .int x0]) (σ' := (S, M, O)) (rfl) ?_
    obtain ⟨r1, hx2, hF⟩ := b1_i hF
    refine Ex_call (kind := 0) (y := 218) (as := [.int x0, .int x0]) (rest := []) (L0 := [some (.int x0), some (.int x0), none, none]) (d' := 1) (v := some (.int r1)) (σ1 := (S, M, O)) rfl rfl mt_218 rfl rfl (by omega) (X_w_hasPartBelow (Nat.le_refl _) _ _ _ hx2) (Ex_st (st2 := [.int r1]) rfl ?_)
    refine Ex_go 1 (pc' := if ¬ r1 = 0 then 17 else 13) (L' := [some (.int x0)]) (st' := []) (σ' := (S, M, O)) (rfl) ?_
    refine Ex_brN (fun hc => ?_) (fun hc => ?_)
    · rw [if_pos hc] at hF
      refine Ex_go 2 (pc' := 18) (L' := [some (.int x0)]) (st' := [.int (1 : Int32)]) (σ' := (S, M, O)) (rfl) ?_
      cases hF
      exact Ex_fin rfl
    · rw [if_neg hc] at hF
      refine Ex_go 1 (pc' := 18) (L' := [some (.int x0)]) (st' := [.int (0 : Int32)]) (σ' := (S, M, O)) (rfl) ?_
      cases hF
      exact Ex_fin rfl
def F_w_shoal_12 : Option (Int32 ⊕ Nat) := some (.inr 0)
set_option maxRecDepth 100000 in
theorem X_w_shoal_12 {nL : Nat} {xs : Nat → Int32} {S : Sto} {M : Sto} {O : Sto} {d : Nat} (hd : 8 ≤ d) : ∀ (r : Int32 ⊕ Nat), F_w_shoal_12 = some r → EX nL xs 1 MI_223 d 12 [none, none, none, none, none] [] (S, M, O) (rsI r) (S, M, O) := by
  intro r hF
  unfold F_w_shoal_12 at hF
  cases hF
  exact Ex_thr rfl (by omega) (Nat.le_refl _)
def F_w_shoal_64 (k44 : Int32 → Int32 → Int32 → Int32 → Option (Int32 ⊕ Nat)) (x1 : Int32) (x2 : Int32) (x3 : Int32) (x4 : Int32) : Option (Int32 ⊕ Nat) := k44 x1 x2 x3 (x4 + (1 : Int32))
set_option maxRecDepth 100000 in
theorem X_w_shoal_64 {nL : Nat} {xs : Nat → Int32} {S : Sto} {M : Sto} {O : Sto} {d : Nat} (hd : 8 ≤ d) {k44 : Int32 → Int32 → Int32 → Int32 → Option (Int32 ⊕ Nat)} (hk44 : ∀ (x1 : Int32) (x2 : Int32) (x3 : Int32) (x4 : Int32) (r : Int32 ⊕ Nat), k44 x1 x2 x3 x4 = some r → EX nL xs 1 MI_223 d 44 [none, some (.int x1), some (.int x2), some (.int x3), some (.int x4)] [] (S, M, O) (rsI r) (S, M, O)) : ∀ (x1 : Int32) (x2 : Int32) (x3 : Int32) (x4 : Int32) (r : Int32 ⊕ Nat), F_w_shoal_64 k44 x1 x2 x3 x4 = some r → EX nL xs 1 MI_223 d 64 [none, some (.int x1), some (.int x2), some (.int x3), some (.int x4)] [] (S, M, O) (rsI r) (S, M, O) := by
  intro x1 x2 x3 x4 r hF
  unfold F_w_shoal_64 at hF
  refine Ex_go 2 (pc' := 44) (L' := [none, some (.int x1), some (.int x2), some (.int x3), some (.int (x4 + (1 : Int32)))]) (st' := []) (σ' := (S, M, O)) (rfl) ?_
  exact Ex_mono (L := [none, some (.int x1), some (.int x2), some (.int x3), some (.int (x4 + (1 : Int32)))]) (Le_n (Le_s (Le_s (Le_s (Le_s (Le_0)))))) (hk44 _ _ _ _ _ hF) (Nat.le_refl _) (by omega)
def F_w_shoal_44 : Nat → Int32 → Int32 → Int32 → Int32 → Option (Int32 ⊕ Nat)
  | 0, _, _, _, _ => none
  | n + 1, x1, x2, x3, x4 => ck (nzI x1) (if (x2 / x1) < x4 then some (.inl x3) else b1 (F_w_hasPartBelow x4 x1) (fun r2 => if r2 = 0 then F_w_shoal_64 (F_w_shoal_44 n) x1 x2 (x3 + (1 : Int32)) x4 else F_w_shoal_64 (F_w_shoal_44 n) x1 x2 x3 x4))
set_option maxRecDepth 100000 in
theorem X_w_shoal_44 {nL : Nat} {xs : Nat → Int32} {S : Sto} {M : Sto} {O : Sto} {d : Nat} (hd : 8 ≤ d) : ∀ n : Nat, ∀ (x1 : Int32) (x2 : Int32) (x3 : Int32) (x4 : Int32) (r : Int32 ⊕ Nat), F_w_shoal_44 n x1 x2 x3 x4 = some r → EX nL xs 1 MI_223 d 44 [none, some (.int x1), some (.int x2), some (.int x3), some (.int x4)] [] (S, M, O) (rsI r) (S, M, O) := by
  intro n
  induction n with
  | zero => intro x1 x2 x3 x4 r hF; cases hF
  | succ n ih =>
  intro x1 x2 x3 x4 r hF
  unfold F_w_shoal_44 at hF
  refine Ex_go 3 (pc' := 48) (L' := [none, some (.int x1), some (.int x2), some (.int x3), some (.int x4)]) (st' := [.int x1, .int x2, .int x4]) (σ' := (S, M, O)) (rfl) ?_
  obtain ⟨hc1, hF⟩ := ck_i hF
  refine Ex_chk (b := nzI x1) (pc' := 49) (L' := [none, some (.int x1), some (.int x2), some (.int x3), some (.int x4)]) (st' := [.int (x2 / x1), .int x4]) (σ' := (S, M, O)) rfl hc1 ?_
  refine Ex_go 1 (pc' := if (x2 / x1) < x4 then 70 else 52) (L' := [none, some (.int x1), some (.int x2), some (.int x3), some (.int x4)]) (st' := []) (σ' := (S, M, O)) (rfl) ?_
  refine Ex_br (fun hc => ?_) (fun hc => ?_)
  · rw [if_pos hc] at hF
    refine Ex_go 1 (pc' := 71) (L' := [none, some (.int x1), some (.int x2), some (.int x3), some (.int x4)]) (st' := [.int x3]) (σ' := (S, M, O)) (rfl) ?_
    cases hF
    exact Ex_fin rfl
  · rw [if_neg hc] at hF
    refine Ex_go 2 (pc' := 55) (L' := [none, some (.int x1), some (.int x2), some (.int x3), some (.int x4)]) (st' := [.int x1, .int x4]) (σ' := (S, M, O)) (rfl) ?_
    obtain ⟨r2, hx3, hF⟩ := b1_i hF
    refine Ex_callK (K1 := 0) (K2 := 1) (kind := 0) (y := 218) (as := [.int x4, .int x1]) (rest := []) (L0 := [some (.int x4), some (.int x1), none, none]) (d' := 1) (v := some (.int r2)) (σ1 := (S, M, O)) rfl rfl mt_218 rfl rfl (by omega) (X_w_hasPartBelow (Nat.le_refl _) _ _ _ hx3) (Ex_st (st2 := [.int r2]) rfl ?_) (by omega)
    refine Ex_go 1 (pc' := if ¬ r2 = 0 then 64 else 61) (L' := [none, some (.int x1), some (.int x2), some (.int x3), some (.int x4)]) (st' := []) (σ' := (S, M, O)) (rfl) ?_
    refine Ex_brN (fun hc => ?_) (fun hc => ?_)
    · rw [if_pos hc] at hF
      refine Ex_go 1 (pc' := 64) (L' := [none, some (.int x1), some (.int x2), some (.int (x3 + (1 : Int32))), some (.int x4)]) (st' := []) (σ' := (S, M, O)) (rfl) ?_
      exact Ex_mono (L := [none, some (.int x1), some (.int x2), some (.int (x3 + (1 : Int32))), some (.int x4)]) (Le_n (Le_s (Le_s (Le_s (Le_s (Le_0)))))) (X_w_shoal_64 hd ih _ _ _ _ _ hF) (Nat.le_refl _) (by omega)
    · rw [if_neg hc] at hF
      exact Ex_mono (L := [none, some (.int x1), some (.int x2), some (.int x3), some (.int x4)]) (Le_n (Le_s (Le_s (Le_s (Le_s (Le_0)))))) (X_w_shoal_64 hd ih _ _ _ _ _ hF) (Nat.le_refl _) (by omega)
def F_w_shoal (x1 : Int32) (x2 : Int32) : Option (Int32 ⊕ Nat) := if x2 < (2 : Int32) then F_w_shoal_12 else if x2 ≤ (100000 : Int32) then if x1 < (2 : Int32) then some (.inl (0 : Int32)) else if x2 < x1 then some (.inl (0 : Int32)) else b1 (F_w_isPrime x1) (fun r1 => if r1 = 0 then some (.inl (0 : Int32)) else F_w_shoal_44 FU x1 x2 (0 : Int32) (1 : Int32)) else F_w_shoal_12
set_option maxRecDepth 100000 in
theorem X_w_shoal {nL : Nat} {xs : Nat → Int32} {S : Sto} {M : Sto} {O : Sto} {d : Nat} (hd : 8 ≤ d) : ∀ (x1 : Int32) (x2 : Int32) (r : Int32 ⊕ Nat), F_w_shoal x1 x2 = some r → EX nL xs 1 MI_223 d 0 [some (.ref 0), some (.int x1), some (.int x2), none, none] [] (S, M, O) (rsI r) (S, M, O) := by
  intro x1 x2 r hF
  unfold F_w_shoal at hF
  refine Ex_go 3 (pc' := if x2 < (2 : Int32) then 12 else 5) (L' := [some (.ref 0), some (.int x1), some (.int x2), none, none]) (st' := []) (σ' := (S, M, O)) (rfl) ?_
  refine Ex_br (fun hc => ?_) (fun hc => ?_)
  · rw [if_pos hc] at hF
    exact Ex_mono (L := [none, none, none, none, none]) (Le_n (Le_n (Le_n (Le_n (Le_n (Le_0)))))) (X_w_shoal_12 hd _ hF) (Nat.le_refl _) (by omega)
  · rw [if_neg hc] at hF
    refine Ex_go 3 (pc' := if x2 ≤ (100000 : Int32) then 20 else 12) (L' := [some (.ref 0), some (.int x1), some (.int x2), none, none]) (st' := []) (σ' := (S, M, O)) (rfl) ?_
    refine Ex_br (fun hc => ?_) (fun hc => ?_)
    · rw [if_pos hc] at hF
      refine Ex_go 3 (pc' := if x1 < (2 : Int32) then 37 else 25) (L' := [some (.ref 0), some (.int x1), some (.int x2), none, none]) (st' := []) (σ' := (S, M, O)) (rfl) ?_
      refine Ex_br (fun hc => ?_) (fun hc => ?_)
      · rw [if_pos hc] at hF
        refine Ex_go 1 (pc' := 38) (L' := [some (.ref 0), some (.int x1), some (.int x2), none, none]) (st' := [.int (0 : Int32)]) (σ' := (S, M, O)) (rfl) ?_
        cases hF
        exact Ex_fin rfl
      · rw [if_neg hc] at hF
        refine Ex_go 3 (pc' := if x2 < x1 then 37 else 30) (L' := [some (.ref 0), some (.int x1), some (.int x2), none, none]) (st' := []) (σ' := (S, M, O)) (rfl) ?_
        refine Ex_br (fun hc => ?_) (fun hc => ?_)
        · rw [if_pos hc] at hF
          refine Ex_go 1 (pc' := 38) (L' := [some (.ref 0), some (.int x1), some (.int x2), none, none]) (st' := [.int (0 : Int32)]) (σ' := (S, M, O)) (rfl) ?_
          cases hF
          exact Ex_fin rfl
        · rw [if_neg hc] at hF
          refine Ex_go 1 (pc' := 31) (L' := [some (.ref 0), some (.int x1), some (.int x2), none, none]) (st' := [.int x1]) (σ' := (S, M, O)) (rfl) ?_
          obtain ⟨r1, hx2, hF⟩ := b1_i hF
          refine Ex_callK (K1 := 0) (K2 := 1) (kind := 0) (y := 219) (as := [.int x1]) (rest := []) (L0 := [some (.int x1)]) (d' := 2) (v := some (.int r1)) (σ1 := (S, M, O)) rfl rfl mt_219 rfl rfl (by omega) (X_w_isPrime (Nat.le_refl _) _ _ hx2) (Ex_st (st2 := [.int r1]) rfl ?_) (by omega)
          refine Ex_go 1 (pc' := if ¬ r1 = 0 then 39 else 37) (L' := [some (.ref 0), some (.int x1), some (.int x2), none, none]) (st' := []) (σ' := (S, M, O)) (rfl) ?_
          refine Ex_brN (fun hc => ?_) (fun hc => ?_)
          · rw [if_pos hc] at hF
            refine Ex_go 1 (pc' := 38) (L' := [some (.ref 0), some (.int x1), some (.int x2), none, none]) (st' := [.int (0 : Int32)]) (σ' := (S, M, O)) (rfl) ?_
            cases hF
            exact Ex_fin rfl
          · rw [if_neg hc] at hF
            refine Ex_go 4 (pc' := 44) (L' := [some (.ref 0), some (.int x1), some (.int x2), some (.int (0 : Int32)), some (.int (1 : Int32))]) (st' := []) (σ' := (S, M, O)) (rfl) ?_
            exact Ex_mono (L := [none, some (.int x1), some (.int x2), some (.int (0 : Int32)), some (.int (1 : Int32))]) (Le_n (Le_s (Le_s (Le_s (Le_s (Le_0)))))) (X_w_shoal_44 hd FU _ _ _ _ _ hF) (Nat.le_refl _) (by omega)
    · rw [if_neg hc] at hF
      exact Ex_mono (L := [none, none, none, none, none]) (Le_n (Le_n (Le_n (Le_n (Le_n (Le_0)))))) (X_w_shoal_12 hd _ hF) (Nat.le_refl _) (by omega)
def F_l_shoal (x1 : Int32) (x2 : Int32) (O : Sto) : Option (Int32 × Sto) := b1 (F_w_shoal x1 x2) (fun r1 => su r1 (fun v3 => some ((0 : Int32), (ul O 2000 (vp_updL (al O 2000) (Int32.toNatClampNeg (0 : Int32)) (Int32.toInt64 v3))))) (fun z4 => if z4 = 0 then some ((1 : Int32), O) else (none)))
set_option maxRecDepth 100000 in
theorem X_l_shoal {nL : Nat} {xs : Nat → Int32} {S : Sto} {M : Sto} {d : Nat} (hd : 9 ≤ d) : ∀ (x1 : Int32) (x2 : Int32) (O : Sto) (r : Int32) (O' : Sto), F_l_shoal x1 x2 O = some (r, O') → EX nL xs 1 MI_224 d 0 [some (.ref 0), some (.int x1), some (.int x2), some (.ref 2000), none] [] (S, M, O) (.inl (some (.int r))) (S, M, O') := by
  intro x1 x2 O r O' hF
  unfold F_l_shoal at hF
  refine Ex_go 5 (pc' := 5) (L' := [some (.ref 0), some (.int x1), some (.int x2), some (.ref 2000), none]) (st' := [.int x2, .int x1, .ref 0, .int (0 : Int32), .ref 2000]) (σ' := (S, M, O)) (rfl) ?_
  obtain ⟨r1, hx2, hF⟩ := b1_i hF
  cases r1 with
  | inl v3 =>
    rw [su_l] at hF
    refine Ex_callK (K1 := 1) (K2 := 0) (kind := 3) (y := 223) (as := [.ref 0, .int x1, .int x2]) (rest := [.int (0 : Int32), .ref 2000]) (L0 := [some (.ref 0), some (.int x1), some (.int x2), none, none]) (d' := 8) (v := some (.int v3)) (σ1 := (S, M, O)) rfl rfl mt_223 rfl rfl (by omega) (X_w_shoal (Nat.le_refl _) _ _ _ hx2) (Ex_st (st2 := [.int v3, .int (0 : Int32), .ref 2000]) rfl ?_) (by omega)
    refine Ex_go 1 (pc' := 9) (L' := [some (.ref 0), some (.int x1), some (.int x2), some (.ref 2000), none]) (st' := [.long (Int32.toInt64 v3), .int (0 : Int32), .ref 2000]) (σ' := (S, M, O)) (rfl) ?_
    refine Ex_chk (b := ib (0 : Int32) 1) (pc' := 10) (L' := [some (.ref 0), some (.int x1), some (.int x2), some (.ref 2000), none]) (st' := []) (σ' := (S, M, (ul O 2000 (vp_updL (al O 2000) (Int32.toNatClampNeg (0 : Int32)) (Int32.toInt64 v3))))) rfl (by decide) ?_
    refine Ex_go 2 (pc' := 18) (L' := [some (.ref 0), some (.int x1), some (.int x2), some (.ref 2000), none]) (st' := [.int (0 : Int32)]) (σ' := (S, M, (ul O 2000 (vp_updL (al O 2000) (Int32.toNatClampNeg (0 : Int32)) (Int32.toInt64 v3))))) (rfl) ?_
    cases hF
    exact Ex_fin rfl
  | inr z4 =>
    by_cases hz0 : z4 = 0
    · have hF : (if z4 = 0 then _ else _) = _ := hF
      rw [if_pos hz0] at hF
      subst hz0
      refine Ex_callX (K1 := 1) (K2 := 0) (y := 223) (as := [.ref 0, .int x1, .int x2]) (rest := [.int (0 : Int32), .ref 2000]) (L0 := [some (.ref 0), some (.int x1), some (.int x2), none, none]) (d' := 8) (σ1 := (S, M, O)) (x := 0) (pc' := 15) (i := 4) rfl rfl mt_223 rfl rfl (by omega) (X_w_shoal (Nat.le_refl _) _ _ _ hx2) rfl (Ex_L (L2 := [some (.ref 0), some (.int x1), some (.int x2), some (.ref 2000), none]) rfl ?_) (by omega)
      refine Ex_go 1 (pc' := 16) (L' := [some (.ref 0), some (.int x1), some (.int x2), some (.ref 2000), none]) (st' := [.int (1 : Int32)]) (σ' := (S, M, O)) (rfl) ?_
      cases hF
      exact Ex_fin rfl
    have hF : (if z4 = 0 then _ else _) = _ := hF
    rw [if_neg hz0] at hF
    cases hF
def F_m_isPrime_11 (x0 : Int32) : Option Int32 := if x0 = (2 : Int32) then some (1 : Int32) else if x0 = (3 : Int32) then some (1 : Int32) else some (0 : Int32)
set_option maxRecDepth 100000 in
theorem X_m_isPrime_11 {nL : Nat} {xs : Nat → Int32} {S : Sto} {M : Sto} {O : Sto} {d : Nat} (hd : 1 ≤ d) : ∀ (x0 : Int32) (r : Int32), F_m_isPrime_11 x0 = some r → EX nL xs 0 MI_216 d 11 [some (.int x0), none] [] (S, M, O) (.inl (some (.int r))) (S, M, O) := by
  intro x0 r hF
  unfold F_m_isPrime_11 at hF
  refine Ex_go 3 (pc' := if x0 = (2 : Int32) then 21 else 16) (L' := [some (.int x0), none]) (st' := []) (σ' := (S, M, O)) (rfl) ?_
  refine Ex_br (fun hc => ?_) (fun hc => ?_)
  · rw [if_pos hc] at hF
    refine Ex_go 2 (pc' := 26) (L' := [some (.int x0), none]) (st' := [.int (1 : Int32)]) (σ' := (S, M, O)) (rfl) ?_
    cases hF
    exact Ex_fin rfl
  · rw [if_neg hc] at hF
    refine Ex_go 3 (pc' := if ¬ x0 = (3 : Int32) then 25 else 21) (L' := [some (.int x0), none]) (st' := []) (σ' := (S, M, O)) (rfl) ?_
    refine Ex_brN (fun hc => ?_) (fun hc => ?_)
    · rw [if_pos hc] at hF
      refine Ex_go 2 (pc' := 26) (L' := [some (.int x0), none]) (st' := [.int (1 : Int32)]) (σ' := (S, M, O)) (rfl) ?_
      cases hF
      exact Ex_fin rfl
    · rw [if_neg hc] at hF
      refine Ex_go 1 (pc' := 26) (L' := [some (.int x0), none]) (st' := [.int (0 : Int32)]) (σ' := (S, M, O)) (rfl) ?_
      cases hF
      exact Ex_fin rfl
def F_m_isPrime_29 : Nat → Int32 → Int32 → Option Int32
  | 0, _, _ => none
  | n + 1, x0, x1 => if (Int32.toInt64 x0) < ((Int32.toInt64 x1) * (Int32.toInt64 x1)) then some (1 : Int32) else ck (nzI x1) (if (x0 - x0 / x1 * x1) = 0 then some (0 : Int32) else F_m_isPrime_29 n x0 (x1 + (2 : Int32)))
set_option maxRecDepth 100000 in
theorem X_m_isPrime_29 {nL : Nat} {xs : Nat → Int32} {S : Sto} {M : Sto} {O : Sto} {d : Nat} (hd : 1 ≤ d) : ∀ n : Nat, ∀ (x0 : Int32) (x1 : Int32) (r : Int32), F_m_isPrime_29 n x0 x1 = some r → EX nL xs 0 MI_216 d 29 [some (.int x0), some (.int x1)] [] (S, M, O) (.inl (some (.int r))) (S, M, O) := by
  intro n
  induction n with
  | zero => intro x0 x1 r hF; cases hF
  | succ n ih =>
  intro x0 x1 r hF
  unfold F_m_isPrime_29 at hF
  refine Ex_go 9 (pc' := if 0 < (lg_cmp ((Int32.toInt64 x1) * (Int32.toInt64 x1)) (Int32.toInt64 x0)) then 54 else 40) (L' := [some (.int x0), some (.int x1)]) (st' := []) (σ' := (S, M, O)) (rfl) ?_
  refine Ex_brI lc_gt (fun hc => ?_) (fun hc => ?_)
  · rw [if_pos hc] at hF
    refine Ex_go 1 (pc' := 55) (L' := [some (.int x0), some (.int x1)]) (st' := [.int (1 : Int32)]) (σ' := (S, M, O)) (rfl) ?_
    cases hF
    exact Ex_fin rfl
  · rw [if_neg hc] at hF
    refine Ex_go 2 (pc' := 42) (L' := [some (.int x0), some (.int x1)]) (st' := [.int x1, .int x0]) (σ' := (S, M, O)) (rfl) ?_
    obtain ⟨hc1, hF⟩ := ck_i hF
    refine Ex_chk (b := nzI x1) (pc' := 43) (L' := [some (.int x0), some (.int x1)]) (st' := [.int (x0 - x0 / x1 * x1)]) (σ' := (S, M, O)) rfl hc1 ?_
    refine Ex_go 1 (pc' := if ¬ (x0 - x0 / x1 * x1) = 0 then 48 else 46) (L' := [some (.int x0), some (.int x1)]) (st' := []) (σ' := (S, M, O)) (rfl) ?_
    refine Ex_brN (fun hc => ?_) (fun hc => ?_)
    · rw [if_pos hc] at hF
      refine Ex_go 1 (pc' := 47) (L' := [some (.int x0), some (.int x1)]) (st' := [.int (0 : Int32)]) (σ' := (S, M, O)) (rfl) ?_
      cases hF
      exact Ex_fin rfl
    · rw [if_neg hc] at hF
      refine Ex_go 2 (pc' := 29) (L' := [some (.int x0), some (.int (x1 + (2 : Int32)))]) (st' := []) (σ' := (S, M, O)) (rfl) ?_
      exact Ex_mono (L := [some (.int x0), some (.int (x1 + (2 : Int32)))]) (Le_s (Le_s (Le_0))) (ih _ _ _ hF) (Nat.le_refl _) (by omega)
def F_m_isPrime (x0 : Int32) : Option Int32 := if x0 < (4 : Int32) then F_m_isPrime_11 x0 else if (x0 - x0 / (2 : Int32) * (2 : Int32)) = 0 then F_m_isPrime_11 x0 else F_m_isPrime_29 FU x0 (3 : Int32)
set_option maxRecDepth 100000 in
theorem X_m_isPrime {nL : Nat} {xs : Nat → Int32} {S : Sto} {M : Sto} {O : Sto} {d : Nat} (hd : 1 ≤ d) : ∀ (x0 : Int32) (r : Int32), F_m_isPrime x0 = some r → EX nL xs 0 MI_216 d 0 [some (.int x0), none] [] (S, M, O) (.inl (some (.int r))) (S, M, O) := by
  intro x0 r hF
  unfold F_m_isPrime at hF
  refine Ex_go 3 (pc' := if x0 < (4 : Int32) then 11 else 5) (L' := [some (.int x0), none]) (st' := []) (σ' := (S, M, O)) (rfl) ?_
  refine Ex_br (fun hc => ?_) (fun hc => ?_)
  · rw [if_pos hc] at hF
    exact Ex_mono (L := [some (.int x0), none]) (Le_s (Le_n (Le_0))) (X_m_isPrime_11 hd _ _ hF) (Nat.le_refl _) (by omega)
  · rw [if_neg hc] at hF
    refine Ex_go 2 (pc' := 7) (L' := [some (.int x0), none]) (st' := [.int (2 : Int32), .int x0]) (σ' := (S, M, O)) (rfl) ?_
    refine Ex_chk (b := nzI (2 : Int32)) (pc' := 8) (L' := [some (.int x0), none]) (st' := [.int (x0 - x0 / (2 : Int32) * (2 : Int32))]) (σ' := (S, M, O)) rfl (by decide) ?_
    refine Ex_go 1 (pc' := if ¬ (x0 - x0 / (2 : Int32) * (2 : Int32)) = 0 then 27 else 11) (L' := [some (.int x0), none]) (st' := []) (σ' := (S, M, O)) (rfl) ?_
    refine Ex_brN (fun hc => ?_) (fun hc => ?_)
    · rw [if_pos hc] at hF
      exact Ex_mono (L := [some (.int x0), none]) (Le_s (Le_n (Le_0))) (X_m_isPrime_11 hd _ _ hF) (Nat.le_refl _) (by omega)
    · rw [if_neg hc] at hF
      refine Ex_go 2 (pc' := 29) (L' := [some (.int x0), some (.int (3 : Int32))]) (st' := []) (σ' := (S, M, O)) (rfl) ?_
      exact Ex_mono (L := [some (.int x0), some (.int (3 : Int32))]) (Le_s (Le_s (Le_0))) (X_m_isPrime_29 hd FU _ _ _ hF) (Nat.le_refl _) (by omega)
def F_m_isLeast_2 : Nat → Int32 → Int32 → Int32 → Option Int32
  | 0, _, _, _ => none
  | n + 1, x0, x1, x2 => if x0 ≤ x2 then some (1 : Int32) else if (Int32.toInt64 x1) < ((Int32.toInt64 x2) * (Int32.toInt64 x2)) then some (1 : Int32) else ck (nzI x2) (if (x1 - x1 / x2 * x2) = 0 then some (0 : Int32) else F_m_isLeast_2 n x0 x1 (x2 + (1 : Int32)))
set_option maxRecDepth 100000 in
theorem X_m_isLeast_2 {nL : Nat} {xs : Nat → Int32} {S : Sto} {M : Sto} {O : Sto} {d : Nat} (hd : 1 ≤ d) : ∀ n : Nat, ∀ (x0 : Int32) (x1 : Int32) (x2 : Int32) (r : Int32), F_m_isLeast_2 n x0 x1 x2 = some r → EX nL xs 0 MI_225 d 2 [some (.int x0), some (.int x1), some (.int x2)] [] (S, M, O) (.inl (some (.int r))) (S, M, O) := by
  intro n
  induction n with
  | zero => intro x0 x1 x2 r hF; cases hF
  | succ n ih =>
  intro x0 x1 x2 r hF
  unfold F_m_isLeast_2 at hF
  refine Ex_go 3 (pc' := if x0 ≤ x2 then 32 else 7) (L' := [some (.int x0), some (.int x1), some (.int x2)]) (st' := []) (σ' := (S, M, O)) (rfl) ?_
  refine Ex_br (fun hc => ?_) (fun hc => ?_)
  · rw [if_pos hc] at hF
    refine Ex_go 1 (pc' := 33) (L' := [some (.int x0), some (.int x1), some (.int x2)]) (st' := [.int (1 : Int32)]) (σ' := (S, M, O)) (rfl) ?_
    cases hF
    exact Ex_fin rfl
  · rw [if_neg hc] at hF
    refine Ex_go 9 (pc' := if 0 < (lg_cmp ((Int32.toInt64 x2) * (Int32.toInt64 x2)) (Int32.toInt64 x1)) then 32 else 18) (L' := [some (.int x0), some (.int x1), some (.int x2)]) (st' := []) (σ' := (S, M, O)) (rfl) ?_
    refine Ex_brI lc_gt (fun hc => ?_) (fun hc => ?_)
    · rw [if_pos hc] at hF
      refine Ex_go 1 (pc' := 33) (L' := [some (.int x0), some (.int x1), some (.int x2)]) (st' := [.int (1 : Int32)]) (σ' := (S, M, O)) (rfl) ?_
      cases hF
      exact Ex_fin rfl
    · rw [if_neg hc] at hF
      refine Ex_go 2 (pc' := 20) (L' := [some (.int x0), some (.int x1), some (.int x2)]) (st' := [.int x2, .int x1]) (σ' := (S, M, O)) (rfl) ?_
      obtain ⟨hc1, hF⟩ := ck_i hF
      refine Ex_chk (b := nzI x2) (pc' := 21) (L' := [some (.int x0), some (.int x1), some (.int x2)]) (st' := [.int (x1 - x1 / x2 * x2)]) (σ' := (S, M, O)) rfl hc1 ?_
      refine Ex_go 1 (pc' := if ¬ (x1 - x1 / x2 * x2) = 0 then 26 else 24) (L' := [some (.int x0), some (.int x1), some (.int x2)]) (st' := []) (σ' := (S, M, O)) (rfl) ?_
      refine Ex_brN (fun hc => ?_) (fun hc => ?_)
      · rw [if_pos hc] at hF
        refine Ex_go 1 (pc' := 25) (L' := [some (.int x0), some (.int x1), some (.int x2)]) (st' := [.int (0 : Int32)]) (σ' := (S, M, O)) (rfl) ?_
        cases hF
        exact Ex_fin rfl
      · rw [if_neg hc] at hF
        refine Ex_go 2 (pc' := 2) (L' := [some (.int x0), some (.int x1), some (.int (x2 + (1 : Int32)))]) (st' := []) (σ' := (S, M, O)) (rfl) ?_
        exact Ex_mono (L := [some (.int x0), some (.int x1), some (.int (x2 + (1 : Int32)))]) (Le_s (Le_s (Le_s (Le_0)))) (ih _ _ _ _ hF) (Nat.le_refl _) (by omega)
def F_m_isLeast (x0 : Int32) (x1 : Int32) : Option Int32 := F_m_isLeast_2 FU x0 x1 (2 : Int32)
set_option maxRecDepth 100000 in
theorem X_m_isLeast {nL : Nat} {xs : Nat → Int32} {S : Sto} {M : Sto} {O : Sto} {d : Nat} (hd : 1 ≤ d) : ∀ (x0 : Int32) (x1 : Int32) (r : Int32), F_m_isLeast x0 x1 = some r → EX nL xs 0 MI_225 d 0 [some (.int x0), some (.int x1), none] [] (S, M, O) (.inl (some (.int r))) (S, M, O) := by
  intro x0 x1 r hF
  unfold F_m_isLeast at hF
  refine Ex_go 2 (pc' := 2) (L' := [some (.int x0), some (.int x1), some (.int (2 : Int32))]) (st' := []) (σ' := (S, M, O)) (rfl) ?_
  exact Ex_mono (L := [some (.int x0), some (.int x1), some (.int (2 : Int32))]) (Le_s (Le_s (Le_s (Le_0)))) (X_m_isLeast_2 hd FU _ _ _ _ hF) (Nat.le_refl _) (by omega)
def F_m_shoal_65 (k44 : Int32 → Int32 → Int32 → Int32 → Sto → Option (Int32 × Sto)) (x1 : Int32) (x2 : Int32) (x4 : Int32) (s0 : Int32) (s1 : Int32) (M : Sto) : Option (Int32 × Sto) := k44 x1 x2 (s0 + s1) (x4 + x1) M
set_option maxRecDepth 100000 in
theorem X_m_shoal_65 {nL : Nat} {xs : Nat → Int32} {S : Sto} {O : Sto} {d : Nat} (hd : 2 ≤ d) {k44 : Int32 → Int32 → Int32 → Int32 → Sto → Option (Int32 × Sto)} (hk44 : ∀ (x1 : Int32) (x2 : Int32) (x3 : Int32) (x4 : Int32) (M : Sto) (r : Int32) (M' : Sto), k44 x1 x2 x3 x4 M = some (r, M') → EX nL xs 0 MI_226 d 44 [none, some (.int x1), some (.int x2), some (.int x3), some (.int x4)] [] (S, M, O) (.inl (some (.int r))) (S, M', O)) : ∀ (x1 : Int32) (x2 : Int32) (x4 : Int32) (s0 : Int32) (s1 : Int32) (M : Sto) (r : Int32) (M' : Sto), F_m_shoal_65 k44 x1 x2 x4 s0 s1 M = some (r, M') → EX nL xs 0 MI_226 d 65 [none, some (.int x1), some (.int x2), none, some (.int x4)] [.int s1, .int s0] (S, M, O) (.inl (some (.int r))) (S, M', O) := by
  intro x1 x2 x4 s0 s1 M r M' hF
  unfold F_m_shoal_65 at hF
  refine Ex_go 7 (pc' := 44) (L' := [none, some (.int x1), some (.int x2), some (.int (s0 + s1)), some (.int (x4 + x1))]) (st' := []) (σ' := (S, M, O)) (rfl) ?_
  exact Ex_mono (L := [none, some (.int x1), some (.int x2), some (.int (s0 + s1)), some (.int (x4 + x1))]) (Le_n (Le_s (Le_s (Le_s (Le_s (Le_0)))))) (hk44 _ _ _ _ _ _ _ hF) (Nat.le_refl _) (by omega)
def F_m_shoal_44 : Nat → Int32 → Int32 → Int32 → Int32 → Sto → Option (Int32 × Sto)
  | 0, _, _, _, _, _ => none
  | n + 1, x1, x2, x3, x4, M => if x2 < x4 then some (x3, M) else b1 (F_m_isLeast x1 x4) (fun r1 => if r1 = 0 then F_m_shoal_65 (F_m_shoal_44 n) x1 x2 x4 x3 (0 : Int32) M else F_m_shoal_65 (F_m_shoal_44 n) x1 x2 x4 x3 (1 : Int32) M)
set_option maxRecDepth 100000 in
theorem X_m_shoal_44 {nL : Nat} {xs : Nat → Int32} {S : Sto} {O : Sto} {d : Nat} (hd : 2 ≤ d) : ∀ n : Nat, ∀ (x1 : Int32) (x2 : Int32) (x3 : Int32) (x4 : Int32) (M : Sto) (r : Int32) (M' : Sto), F_m_shoal_44 n x1 x2 x3 x4 M = some (r, M') → EX nL xs 0 MI_226 d 44 [none, some (.int x1), some (.int x2), some (.int x3), some (.int x4)] [] (S, M, O) (.inl (some (.int r))) (S, M', O) := by
  intro n
  induction n with
  | zero => intro x1 x2 x3 x4 M r M' hF; cases hF
  | succ n ih =>
  intro x1 x2 x3 x4 M r M' hF
  unfold F_m_shoal_44 at hF
  refine Ex_go 3 (pc' := if x2 < x4 then 76 else 50) (L' := [none, some (.int x1), some (.int x2), some (.int x3), some (.int x4)]) (st' := []) (σ' := (S, M, O)) (rfl) ?_
  refine Ex_br (fun hc => ?_) (fun hc => ?_)
  · rw [if_pos hc] at hF
    refine Ex_go 1 (pc' := 77) (L' := [none, some (.int x1), some (.int x2), some (.int x3), some (.int x4)]) (st' := [.int x3]) (σ' := (S, M, O)) (rfl) ?_
    cases hF
    exact Ex_fin rfl
  · rw [if_neg hc] at hF
    refine Ex_go 3 (pc' := 54) (L' := [none, some (.int x1), some (.int x2), some (.int x3), some (.int x4)]) (st' := [.int x4, .int x1, .int x3]) (σ' := (S, M, O)) (rfl) ?_
    obtain ⟨r1, hx2, hF⟩ := b1_i hF
    refine Ex_call (kind := 0) (y := 225) (as := [.int x1, .int x4]) (rest := [.int x3]) (L0 := [some (.int x1), some (.int x4), none]) (d' := 1) (v := some (.int r1)) (σ1 := (S, M, O)) rfl rfl mt_225 rfl rfl (by omega) (X_m_isLeast (Nat.le_refl _) _ _ _ hx2) (Ex_st (st2 := [.int r1, .int x3]) rfl ?_)
    refine Ex_go 1 (pc' := if r1 = 0 then 64 else 60) (L' := [none, some (.int x1), some (.int x2), some (.int x3), some (.int x4)]) (st' := [.int x3]) (σ' := (S, M, O)) (rfl) ?_
    refine Ex_br (fun hc => ?_) (fun hc => ?_)
    · rw [if_pos hc] at hF
      refine Ex_go 1 (pc' := 65) (L' := [none, some (.int x1), some (.int x2), some (.int x3), some (.int x4)]) (st' := [.int (0 : Int32), .int x3]) (σ' := (S, M, O)) (rfl) ?_
      exact Ex_mono (L := [none, some (.int x1), some (.int x2), none, some (.int x4)]) (Le_n (Le_s (Le_s (Le_n (Le_s (Le_0)))))) (X_m_shoal_65 hd ih _ _ _ _ _ _ _ _ hF) (Nat.le_refl _) (by omega)
    · rw [if_neg hc] at hF
      refine Ex_go 2 (pc' := 65) (L' := [none, some (.int x1), some (.int x2), some (.int x3), some (.int x4)]) (st' := [.int (1 : Int32), .int x3]) (σ' := (S, M, O)) (rfl) ?_
      exact Ex_mono (L := [none, some (.int x1), some (.int x2), none, some (.int x4)]) (Le_n (Le_s (Le_s (Le_n (Le_s (Le_0)))))) (X_m_shoal_65 hd ih _ _ _ _ _ _ _ _ hF) (Nat.le_refl _) (by omega)
def F_m_shoal (x1 : Int32) (x2 : Int32) (M : Sto) : Option (Int32 × Sto) := b1 (F_m_isIn (Int32.toInt64 x2) (2 : Int64) (100000 : Int64)) (fun r1 => if r1 = 0 then b2 (F_m_fail (1 : Int32) (si M 1001 (0 : Int32))) (fun r5 M7 => some (r5, M7)) else if x2 < x1 then some ((0 : Int32), (si M 1001 (0 : Int32))) else b1 (F_m_isPrime x1) (fun r3 => if r3 = 0 then some ((0 : Int32), (si M 1001 (0 : Int32))) else F_m_shoal_44 FU x1 x2 (0 : Int32) x1 (si M 1001 (0 : Int32))))
set_option maxRecDepth 100000 in
theorem X_m_shoal {nL : Nat} {xs : Nat → Int32} {S : Sto} {O : Sto} {d : Nat} (hd : 2 ≤ d) : ∀ (x1 : Int32) (x2 : Int32) (M : Sto) (r : Int32) (M' : Sto), F_m_shoal x1 x2 M = some (r, M') → EX nL xs 0 MI_226 d 0 [some (.ref 1000), some (.int x1), some (.int x2), none, none] [] (S, M, O) (.inl (some (.int r))) (S, M', O) := by
  intro x1 x2 M r M' hF
  unfold F_m_shoal at hF
  refine Ex_go 7 (pc' := 13) (L' := [some (.ref 1000), some (.int x1), some (.int x2), none, none]) (st' := [.long (100000 : Int64), .long (2 : Int64), .long (Int32.toInt64 x2)]) (σ' := (S, (si M 1001 (0 : Int32)), O)) (rfl) ?_
  obtain ⟨r1, hx2, hF⟩ := b1_i hF
  refine Ex_call (kind := 0) (y := 91) (as := [.long (Int32.toInt64 x2), .long (2 : Int64), .long (100000 : Int64)]) (rest := []) (L0 := [some (.long (Int32.toInt64 x2)), none, some (.long (2 : Int64)), none, some (.long (100000 : Int64)), none]) (d' := 1) (v := some (.int r1)) (σ1 := (S, (si M 1001 (0 : Int32)), O)) rfl rfl mt_91 rfl rfl (by omega) (X_m_isIn (Nat.le_refl _) _ _ _ _ hx2) (Ex_st (st2 := [.int r1]) rfl ?_)
  refine Ex_go 1 (pc' := if ¬ r1 = 0 then 25 else 19) (L' := [some (.ref 1000), some (.int x1), some (.int x2), none, none]) (st' := []) (σ' := (S, (si M 1001 (0 : Int32)), O)) (rfl) ?_
  refine Ex_brN (fun hc => ?_) (fun hc => ?_)
  · rw [if_pos hc] at hF
    refine Ex_go 2 (pc' := 21) (L' := [some (.ref 1000), some (.int x1), some (.int x2), none, none]) (st' := [.int (1 : Int32), .ref 1000]) (σ' := (S, (si M 1001 (0 : Int32)), O)) (rfl) ?_
    obtain ⟨r5, M7, hx6, hF⟩ := b2_i hF
    refine Ex_call (kind := 2) (y := 50) (as := [.ref 1000, .int (1 : Int32)]) (rest := []) (L0 := [some (.ref 1000), some (.int (1 : Int32))]) (d' := 1) (v := some (.int r5)) (σ1 := (S, M7, O)) rfl rfl mt_50 rfl rfl (by omega) (X_m_fail (Nat.le_refl _) _ _ _ _ hx6) (Ex_st (st2 := [.int r5]) rfl ?_)
    cases hF
    exact Ex_fin rfl
  · rw [if_neg hc] at hF
    refine Ex_go 3 (pc' := if x2 < x1 then 37 else 30) (L' := [some (.ref 1000), some (.int x1), some (.int x2), none, none]) (st' := []) (σ' := (S, (si M 1001 (0 : Int32)), O)) (rfl) ?_
    refine Ex_br (fun hc => ?_) (fun hc => ?_)
    · rw [if_pos hc] at hF
      refine Ex_go 1 (pc' := 38) (L' := [some (.ref 1000), some (.int x1), some (.int x2), none, none]) (st' := [.int (0 : Int32)]) (σ' := (S, (si M 1001 (0 : Int32)), O)) (rfl) ?_
      cases hF
      exact Ex_fin rfl
    · rw [if_neg hc] at hF
      refine Ex_go 1 (pc' := 31) (L' := [some (.ref 1000), some (.int x1), some (.int x2), none, none]) (st' := [.int x1]) (σ' := (S, (si M 1001 (0 : Int32)), O)) (rfl) ?_
      obtain ⟨r3, hx4, hF⟩ := b1_i hF
      refine Ex_call (kind := 0) (y := 216) (as := [.int x1]) (rest := []) (L0 := [some (.int x1), none]) (d' := 1) (v := some (.int r3)) (σ1 := (S, (si M 1001 (0 : Int32)), O)) rfl rfl mt_216 rfl rfl (by omega) (X_m_isPrime (Nat.le_refl _) _ _ hx4) (Ex_st (st2 := [.int r3]) rfl ?_)
      refine Ex_go 1 (pc' := if ¬ r3 = 0 then 39 else 37) (L' := [some (.ref 1000), some (.int x1), some (.int x2), none, none]) (st' := []) (σ' := (S, (si M 1001 (0 : Int32)), O)) (rfl) ?_
      refine Ex_brN (fun hc => ?_) (fun hc => ?_)
      · rw [if_pos hc] at hF
        refine Ex_go 1 (pc' := 38) (L' := [some (.ref 1000), some (.int x1), some (.int x2), none, none]) (st' := [.int (0 : Int32)]) (σ' := (S, (si M 1001 (0 : Int32)), O)) (rfl) ?_
        cases hF
        exact Ex_fin rfl
      · rw [if_neg hc] at hF
        refine Ex_go 4 (pc' := 44) (L' := [some (.ref 1000), some (.int x1), some (.int x2), some (.int (0 : Int32)), some (.int x1)]) (st' := []) (σ' := (S, (si M 1001 (0 : Int32)), O)) (rfl) ?_
        exact Ex_mono (L := [none, some (.int x1), some (.int x2), some (.int (0 : Int32)), some (.int x1)]) (Le_n (Le_s (Le_s (Le_s (Le_s (Le_0)))))) (X_m_shoal_44 hd FU _ _ _ _ _ _ _ hF) (Nat.le_refl _) (by omega)
