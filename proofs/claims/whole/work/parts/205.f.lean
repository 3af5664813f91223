/-! ===== what the methods do, as functions, and that the small machine does it (printed by wip/whole/gen4.py) ===== -/
def F_w_isDivided (x0 : Int32) : Option Int32 := if x0 < (1 : Int32) then some (0 : Int32) else if (1000000000 : Int32) < x0 then some (0 : Int32) else some (1 : Int32)
set_option maxRecDepth 100000 in
theorem X_w_isDivided {nL : Nat} {xs : Nat → Int32} {S : Sto} {M : Sto} {O : Sto} {d : Nat} (hd : 1 ≤ d) : ∀ (x0 : Int32) (r : Int32), F_w_isDivided x0 = some r → EX nL xs 0 MI_195 d 0 [some (.int x0)] [] (S, M, O) (.inl (some (.int r))) (S, M, O) := by
  intro x0 r hF
  unfold F_w_isDivided at hF
  refine Ex_go 3 (pc' := if x0 < (1 : Int32) then 16 else 5) (L' := [some (.int x0)]) (st' := []) (σ' := (S, M, O)) (rfl) ?_
  refine Ex_br (fun hc => ?_) (fun hc => ?_)
  · rw [if_pos hc] at hF
    refine Ex_go 1 (pc' := 17) (L' := [some (.int x0)]) (st' := [.int (0 : Int32)]) (σ' := (S, M, O)) (rfl) ?_
    cases hF
    exact Ex_fin rfl
  · rw [if_neg hc] at hF
    refine Ex_go 3 (pc' := if (1000000000 : Int32) < x0 then 16 else 12) (L' := [some (.int x0)]) (st' := []) (σ' := (S, M, O)) (rfl) ?_
    refine Ex_br (fun hc => ?_) (fun hc => ?_)
    · rw [if_pos hc] at hF
      refine Ex_go 1 (pc' := 17) (L' := [some (.int x0)]) (st' := [.int (0 : Int32)]) (σ' := (S, M, O)) (rfl) ?_
      cases hF
      exact Ex_fin rfl
    · rw [if_neg hc] at hF
      refine Ex_go 2 (pc' := 17) (L' := [some (.int x0)]) (st' := [.int (1 : Int32)]) (σ' := (S, M, O)) (rfl) ?_
      cases hF
      exact Ex_fin rfl
def F_w_prime_17 : Nat → Int32 → Int32 → Option (Int32 ⊕ Nat)
  | 0, _, _ => none
  | n + 1, x1, x2 => if (2000 : Int32) < x2 then some (.inl (-1 : Int32)) else b1 (F_w_isPrime (x1 + x2)) (fun r1 => if r1 = 0 then F_w_prime_17 n x1 (x2 + (1 : Int32)) else some (.inl (x1 + x2)))
set_option maxRecDepth 100000 in
theorem X_w_prime_17 {nL : Nat} {xs : Nat → Int32} {S : Sto} {M : Sto} {O : Sto} {d : Nat} (hd : 8 ≤ d) : ∀ n : Nat, ∀ (x1 : Int32) (x2 : Int32) (r : Int32 ⊕ Nat), F_w_prime_17 n x1 x2 = some r → EX nL xs 1 MI_220 d 17 [none, some (.int x1), some (.int x2)] [] (S, M, O) (rsI r) (S, M, O) := by
  intro n
  induction n with
  | zero => intro x1 x2 r hF; cases hF
  | succ n ih =>
  intro x1 x2 r hF
  unfold F_w_prime_17 at hF
  refine Ex_go 3 (pc' := if (2000 : Int32) < x2 then 43 else 24) (L' := [none, some (.int x1), some (.int x2)]) (st' := []) (σ' := (S, M, O)) (rfl) ?_
  refine Ex_br (fun hc => ?_) (fun hc => ?_)
  · rw [if_pos hc] at hF
    refine Ex_go 1 (pc' := 44) (L' := [none, some (.int x1), some (.int x2)]) (st' := [.int (-1 : Int32)]) (σ' := (S, M, O)) (rfl) ?_
    cases hF
    exact Ex_fin rfl
  · rw [if_neg hc] at hF
    refine Ex_go 3 (pc' := 27) (L' := [none, some (.int x1), some (.int x2)]) (st' := [.int (x1 + x2)]) (σ' := (S, M, O)) (rfl) ?_
    obtain ⟨r1, hx2, hF⟩ := b1_i hF
    refine Ex_callK (K1 := 0) (K2 := 1) (kind := 0) (y := 219) (as := [.int (x1 + x2)]) (rest := []) (L0 := [some (.int (x1 + x2))]) (d' := 2) (v := some (.int r1)) (σ1 := (S, M, O)) rfl rfl mt_219 rfl rfl (by omega) (X_w_isPrime (Nat.le_refl _) _ _ hx2) (Ex_st (st2 := [.int r1]) rfl ?_) (by omega)
    refine Ex_go 1 (pc' := if r1 = 0 then 37 else 33) (L' := [none, some (.int x1), some (.int x2)]) (st' := []) (σ' := (S, M, O)) (rfl) ?_
    refine Ex_br (fun hc => ?_) (fun hc => ?_)
    · rw [if_pos hc] at hF
      refine Ex_go 2 (pc' := 17) (L' := [none, some (.int x1), some (.int (x2 + (1 : Int32)))]) (st' := []) (σ' := (S, M, O)) (rfl) ?_
      exact Ex_mono (L := [none, some (.int x1), some (.int (x2 + (1 : Int32)))]) (Le_n (Le_s (Le_s (Le_0)))) (ih _ _ _ hF) (Nat.le_refl _) (by omega)
    · rw [if_neg hc] at hF
      refine Ex_go 3 (pc' := 36) (L' := [none, some (.int x1), some (.int x2)]) (st' := [.int (x1 + x2)]) (σ' := (S, M, O)) (rfl) ?_
      cases hF
      exact Ex_fin rfl
def F_w_prime (x1 : Int32) : Option (Int32 ⊕ Nat) := b1 (F_w_isDivided x1) (fun r1 => if r1 = 0 then some (.inr 0) else F_w_prime_17 FU x1 (0 : Int32))
set_option maxRecDepth 100000 in
theorem X_w_prime {nL : Nat} {xs : Nat → Int32} {S : Sto} {M : Sto} {O : Sto} {d : Nat} (hd : 8 ≤ d) : ∀ (x1 : Int32) (r : Int32 ⊕ Nat), F_w_prime x1 = some r → EX nL xs 1 MI_220 d 0 [some (.ref 0), some (.int x1), none] [] (S, M, O) (rsI r) (S, M, O) := by
  intro x1 r hF
  unfold F_w_prime at hF
  refine Ex_go 1 (pc' := 1) (L' := [some (.ref 0), some (.int x1), none]) (st' := [.int x1]) (σ' := (S, M, O)) (rfl) ?_
  obtain ⟨r1, hx2, hF⟩ := b1_i hF
  refine Ex_callK (K1 := 0) (K2 := 1) (kind := 0) (y := 195) (as := [.int x1]) (rest := []) (L0 := [some (.int x1)]) (d' := 1) (v := some (.int r1)) (σ1 := (S, M, O)) rfl rfl mt_195 rfl rfl (by omega) (X_w_isDivided (Nat.le_refl _) _ _ hx2) (Ex_st (st2 := [.int r1]) rfl ?_) (by omega)
  refine Ex_go 1 (pc' := if ¬ r1 = 0 then 15 else 7) (L' := [some (.ref 0), some (.int x1), none]) (st' := []) (σ' := (S, M, O)) (rfl) ?_
  refine Ex_brN (fun hc => ?_) (fun hc => ?_)
  · rw [if_pos hc] at hF
    cases hF
    exact Ex_thr rfl (by omega) (Nat.le_refl _)
  · rw [if_neg hc] at hF
    refine Ex_go 2 (pc' := 17) (L' := [some (.ref 0), some (.int x1), some (.int (0 : Int32))]) (st' := []) (σ' := (S, M, O)) (rfl) ?_
    exact Ex_mono (L := [none, some (.int x1), some (.int (0 : Int32))]) (Le_n (Le_s (Le_s (Le_0)))) (X_w_prime_17 hd FU _ _ _ hF) (Nat.le_refl _) (by omega)
def F_l_prime (x1 : Int32) (O : Sto) : Option (Int32 × Sto) := b1 (F_w_prime x1) (fun r1 => su r1 (fun v3 => some ((0 : Int32), (ul O 2000 (vp_updL (al O 2000) (Int32.toNatClampNeg (0 : Int32)) (Int32.toInt64 v3))))) (fun z4 => if z4 = 0 then some ((1 : Int32), O) else (none)))
set_option maxRecDepth 100000 in
theorem X_l_prime {nL : Nat} {xs : Nat → Int32} {S : Sto} {M : Sto} {d : Nat} (hd : 9 ≤ d) : ∀ (x1 : Int32) (O : Sto) (r : Int32) (O' : Sto), F_l_prime x1 O = some (r, O') → EX nL xs 1 MI_221 d 0 [some (.ref 0), some (.int x1), some (.ref 2000), none] [] (S, M, O) (.inl (some (.int r))) (S, M, O') := by
  intro x1 O r O' hF
  unfold F_l_prime at hF
  refine Ex_go 4 (pc' := 4) (L' := [some (.ref 0), some (.int x1), some (.ref 2000), none]) (st' := [.int x1, .ref 0, .int (0 : Int32), .ref 2000]) (σ' := (S, M, O)) (rfl) ?_
  obtain ⟨r1, hx2, hF⟩ := b1_i hF
  cases r1 with
  | inl v3 =>
    rw [su_l] at hF
    refine Ex_callK (K1 := 1) (K2 := 0) (kind := 3) (y := 220) (as := [.ref 0, .int x1]) (rest := [.int (0 : Int32), .ref 2000]) (L0 := [some (.ref 0), some (.int x1), none]) (d' := 8) (v := some (.int v3)) (σ1 := (S, M, O)) rfl rfl mt_220 rfl rfl (by omega) (X_w_prime (Nat.le_refl _) _ _ hx2) (Ex_st (st2 := [.int v3, .int (0 : Int32), .ref 2000]) rfl ?_) (by omega)
    refine Ex_go 1 (pc' := 8) (L' := [some (.ref 0), some (.int x1), some (.ref 2000), none]) (st' := [.long (Int32.toInt64 v3), .int (0 : Int32), .ref 2000]) (σ' := (S, M, O)) (rfl) ?_
    refine Ex_chk (b := ib (0 : Int32) 1) (pc' := 9) (L' := [some (.ref 0), some (.int x1), some (.ref 2000), none]) (st' := []) (σ' := (S, M, (ul O 2000 (vp_updL (al O 2000) (Int32.toNatClampNeg (0 : Int32)) (Int32.toInt64 v3))))) rfl (by decide) ?_
    refine Ex_go 2 (pc' := 16) (L' := [some (.ref 0), some (.int x1), some (.ref 2000), none]) (st' := [.int (0 : Int32)]) (σ' := (S, M, (ul O 2000 (vp_updL (al O 2000) (Int32.toNatClampNeg (0 : Int32)) (Int32.toInt64 v3))))) (rfl) ?_
    cases hF
    exact Ex_fin rfl
  | inr z4 =>
    by_cases hz0 : z4 = 0
    · have hF : (if z4 = 0 then _ else _) = _ := hF
      rw [if_pos hz0] at hF
      subst hz0
      refine Ex_callX (K1 := 1) (K2 := 0) (y := 220) (as := [.ref 0, .int x1]) (rest := [.int (0 : Int32), .ref 2000]) (L0 := [some (.ref 0), some (.int x1), none]) (d' := 8) (σ1 := (S, M, O)) (x := 0) (pc' := 13) (i := 3) rfl rfl mt_220 rfl rfl (by omega) (X_w_prime (Nat.le_refl _) _ _ hx2) rfl (Ex_L (L2 := [some (.ref 0), some (.int x1), some (.ref 2000), none]) rfl ?_) (by omega)
      refine Ex_go 1 (pc' := 14) (L' := [some (.ref 0), some (.int x1), some (.ref 2000), none]) (st' := [.int (1 : Int32)]) (σ' := (S, M, O)) (rfl) ?_
      cases hF
      exact Ex_fin rfl
    have hF : (if z4 = 0 then _ else _) = _ := hF
    rw [if_neg hz0] at hF
    cases hF
def F_m_isSmall (x0 : Int32) : Option Int32 := b1 (F_m_isIn (Int32.toInt64 x0) (1 : Int64) (1000000000 : Int64)) (fun r1 => ck (b01 r1) (some r1))
set_option maxRecDepth 100000 in
theorem X_m_isSmall {nL : Nat} {xs : Nat → Int32} {S : Sto} {M : Sto} {O : Sto} {d : Nat} (hd : 2 ≤ d) : ∀ (x0 : Int32) (r : Int32), F_m_isSmall x0 = some r → EX nL xs 0 MI_203 d 0 [some (.int x0)] [] (S, M, O) (.inl (some (.int r))) (S, M, O) := by
  intro x0 r hF
  unfold F_m_isSmall at hF
  refine Ex_go 4 (pc' := 6) (L' := [some (.int x0)]) (st' := [.long (1000000000 : Int64), .long (1 : Int64), .long (Int32.toInt64 x0)]) (σ' := (S, M, O)) (rfl) ?_
  obtain ⟨r1, hx2, hF⟩ := b1_i hF
  refine Ex_call (kind := 0) (y := 91) (as := [.long (Int32.toInt64 x0), .long (1 : Int64), .long (1000000000 : Int64)]) (rest := []) (L0 := [some (.long (Int32.toInt64 x0)), none, some (.long (1 : Int64)), none, some (.long (1000000000 : Int64)), none]) (d' := 1) (v := some (.int r1)) (σ1 := (S, M, O)) rfl rfl mt_91 rfl rfl (by omega) (X_m_isIn (Nat.le_refl _) _ _ _ _ hx2) (Ex_st (st2 := [.int r1]) rfl ?_)
  obtain ⟨hc3, hF⟩ := ck_i hF
  cases hF
  exact Ex_finZ (by exact rfl) hc3
def F_m_prime_20 : Nat → Int32 → Int32 → Sto → Option (Int32 × Sto)
  | 0, _, _, _ => none
  | n + 1, x1, x2, M => if (2000 : Int32) < x2 then some ((-1 : Int32), M) else b1 (F_m_isPrime (x1 + x2)) (fun r1 => if r1 = 0 then F_m_prime_20 n x1 (x2 + (1 : Int32)) M else some ((x1 + x2), M))
set_option maxRecDepth 100000 in
theorem X_m_prime_20 {nL : Nat} {xs : Nat → Int32} {S : Sto} {O : Sto} {d : Nat} (hd : 3 ≤ d) : ∀ n : Nat, ∀ (x1 : Int32) (x2 : Int32) (M : Sto) (r : Int32) (M' : Sto), F_m_prime_20 n x1 x2 M = some (r, M') → EX nL xs 0 MI_222 d 20 [none, some (.int x1), some (.int x2)] [] (S, M, O) (.inl (some (.int r))) (S, M', O) := by
  intro n
  induction n with
  | zero => intro x1 x2 M r M' hF; cases hF
  | succ n ih =>
  intro x1 x2 M r M' hF
  unfold F_m_prime_20 at hF
  refine Ex_go 3 (pc' := if (2000 : Int32) < x2 then 46 else 27) (L' := [none, some (.int x1), some (.int x2)]) (st' := []) (σ' := (S, M, O)) (rfl) ?_
  refine Ex_br (fun hc => ?_) (fun hc => ?_)
  · rw [if_pos hc] at hF
    refine Ex_go 1 (pc' := 47) (L' := [none, some (.int x1), some (.int x2)]) (st' := [.int (-1 : Int32)]) (σ' := (S, M, O)) (rfl) ?_
    cases hF
    exact Ex_fin rfl
  · rw [if_neg hc] at hF
    refine Ex_go 3 (pc' := 30) (L' := [none, some (.int x1), some (.int x2)]) (st' := [.int (x1 + x2)]) (σ' := (S, M, O)) (rfl) ?_
    obtain ⟨r1, hx2, hF⟩ := b1_i hF
    refine Ex_call (kind := 0) (y := 216) (as := [.int (x1 + x2)]) (rest := []) (L0 := [some (.int (x1 + x2)), none]) (d' := 1) (v := some (.int r1)) (σ1 := (S, M, O)) rfl rfl mt_216 rfl rfl (by omega) (X_m_isPrime (Nat.le_refl _) _ _ hx2) (Ex_st (st2 := [.int r1]) rfl ?_)
    refine Ex_go 1 (pc' := if r1 = 0 then 40 else 36) (L' := [none, some (.int x1), some (.int x2)]) (st' := []) (σ' := (S, M, O)) (rfl) ?_
    refine Ex_br (fun hc => ?_) (fun hc => ?_)
    · rw [if_pos hc] at hF
      refine Ex_go 2 (pc' := 20) (L' := [none, some (.int x1), some (.int (x2 + (1 : Int32)))]) (st' := []) (σ' := (S, M, O)) (rfl) ?_
      exact Ex_mono (L := [none, some (.int x1), some (.int (x2 + (1 : Int32)))]) (Le_n (Le_s (Le_s (Le_0)))) (ih _ _ _ _ _ hF) (Nat.le_refl _) (by omega)
    · rw [if_neg hc] at hF
      refine Ex_go 3 (pc' := 39) (L' := [none, some (.int x1), some (.int x2)]) (st' := [.int (x1 + x2)]) (σ' := (S, M, O)) (rfl) ?_
      cases hF
      exact Ex_fin rfl
def F_m_prime (x1 : Int32) (M : Sto) : Option (Int32 × Sto) := b1 (F_m_isSmall x1) (fun r1 => if r1 = 0 then b2 (F_m_fail (1 : Int32) (si M 1001 (0 : Int32))) (fun r3 M5 => some (r3, M5)) else F_m_prime_20 FU x1 (0 : Int32) (si M 1001 (0 : Int32)))
set_option maxRecDepth 100000 in
theorem X_m_prime {nL : Nat} {xs : Nat → Int32} {S : Sto} {O : Sto} {d : Nat} (hd : 3 ≤ d) : ∀ (x1 : Int32) (M : Sto) (r : Int32) (M' : Sto), F_m_prime x1 M = some (r, M') → EX nL xs 0 MI_222 d 0 [some (.ref 1000), some (.int x1), none] [] (S, M, O) (.inl (some (.int r))) (S, M', O) := by
  intro x1 M r M' hF
  unfold F_m_prime at hF
  refine Ex_go 4 (pc' := 6) (L' := [some (.ref 1000), some (.int x1), none]) (st' := [.int x1]) (σ' := (S, (si M 1001 (0 : Int32)), O)) (rfl) ?_
  obtain ⟨r1, hx2, hF⟩ := b1_i hF
  refine Ex_call (kind := 0) (y := 203) (as := [.int x1]) (rest := []) (L0 := [some (.int x1)]) (d' := 2) (v := some (.int r1)) (σ1 := (S, (si M 1001 (0 : Int32)), O)) rfl rfl mt_203 rfl rfl (by omega) (X_m_isSmall (Nat.le_refl _) _ _ hx2) (Ex_st (st2 := [.int r1]) rfl ?_)
  refine Ex_go 1 (pc' := if ¬ r1 = 0 then 18 else 12) (L' := [some (.ref 1000), some (.int x1), none]) (st' := []) (σ' := (S, (si M 1001 (0 : Int32)), O)) (rfl) ?_
  refine Ex_brN (fun hc => ?_) (fun hc => ?_)
  · rw [if_pos hc] at hF
    refine Ex_go 2 (pc' := 14) (L' := [some (.ref 1000), some (.int x1), none]) (st' := [.int (1 : Int32), .ref 1000]) (σ' := (S, (si M 1001 (0 : Int32)), O)) (rfl) ?_
    obtain ⟨r3, M5, hx4, hF⟩ := b2_i hF
    refine Ex_call (kind := 2) (y := 50) (as := [.ref 1000, .int (1 : Int32)]) (rest := []) (L0 := [some (.ref 1000), some (.int (1 : Int32))]) (d' := 1) (v := some (.int r3)) (σ1 := (S, M5, O)) rfl rfl mt_50 rfl rfl (by omega) (X_m_fail (Nat.le_refl _) _ _ _ _ hx4) (Ex_st (st2 := [.int r3]) rfl ?_)
    cases hF
    exact Ex_fin rfl
  · rw [if_neg hc] at hF
    refine Ex_go 2 (pc' := 20) (L' := [some (.ref 1000), some (.int x1), some (.int (0 : Int32))]) (st' := []) (σ' := (S, (si M 1001 (0 : Int32)), O)) (rfl) ?_
    exact Ex_mono (L := [none, some (.int x1), some (.int (0 : Int32))]) (Le_n (Le_s (Le_s (Le_0)))) (X_m_prime_20 hd FU _ _ _ _ _ hF) (Nat.le_refl _) (by omega)
def F_w_strikeMultiples_76 (k36 : Int64 → Int32 → Int32 → Int64 → Sto → Option (Unit × Sto)) (x1 : Int64) (x3 : Int32) (x4 : Int32) (x7 : Int64) (S : Sto) : Option (Unit × Sto) := k36 x1 x3 x4 (x7 + x1) S
set_option maxRecDepth 100000 in
theorem X_w_strikeMultiples_76 {nL : Nat} {xs : Nat → Int32} {M : Sto} {O : Sto} {d : Nat} (hd : 6 ≤ d) {k36 : Int64 → Int32 → Int32 → Int64 → Sto → Option (Unit × Sto)} (hk36 : ∀ (x1 : Int64) (x3 : Int32) (x4 : Int32) (x7 : Int64) (S : Sto) (r : Unit) (S' : Sto), k36 x1 x3 x4 x7 S = some (r, S') → EX nL xs 0 MI_212 d 36 [some (.ref 0), some (.long x1), none, some (.int x3), some (.int x4), none, none, some (.long x7), none, none] [] (S, M, O) (.inl none) (S', M, O)) : ∀ (x1 : Int64) (x3 : Int32) (x4 : Int32) (x7 : Int64) (S : Sto) (r : Unit) (S' : Sto), F_w_strikeMultiples_76 k36 x1 x3 x4 x7 S = some (r, S') → EX nL xs 0 MI_212 d 76 [some (.ref 0), some (.long x1), none, some (.int x3), some (.int x4), none, none, some (.long x7), none, none] [] (S, M, O) (.inl none) (S', M, O) := by
  intro x1 x3 x4 x7 S r S' hF
  unfold F_w_strikeMultiples_76 at hF
  refine Ex_go 5 (pc' := 36) (L' := [some (.ref 0), some (.long x1), none, some (.int x3), some (.int x4), none, none, some (.long (x7 + x1)), none, none]) (st' := []) (σ' := (S, M, O)) (rfl) ?_
  exact Ex_mono (L := [some (.ref 0), some (.long x1), none, some (.int x3), some (.int x4), none, none, some (.long (x7 + x1)), none, none]) (Le_s (Le_s (Le_n (Le_s (Le_s (Le_n (Le_n (Le_s (Le_n (Le_n (Le_0))))))))))) (hk36 _ _ _ _ _ _ _ hF) (Nat.le_refl _) (by omega)
def F_w_strikeMultiples_36 : Nat → Int64 → Int32 → Int32 → Int64 → Sto → Option (Unit × Sto)
  | 0, _, _, _, _, _ => none
  | n + 1, x1, x3, x4, x7, S => if (Int32.toInt64 x4) < x7 then some ((), S) else if (Int64.toInt32 (x7 - (Int32.toInt64 x3))) < 0 then F_w_strikeMultiples_76 (F_w_strikeMultiples_36 n) x1 x3 x4 x7 S else if (nI 2001) ≤ (Int64.toInt32 (x7 - (Int32.toInt64 x3))) then F_w_strikeMultiples_76 (F_w_strikeMultiples_36 n) x1 x3 x4 x7 S else ck (ib (Int64.toInt32 (x7 - (Int32.toInt64 x3))) 2001) (F_w_strikeMultiples_76 (F_w_strikeMultiples_36 n) x1 x3 x4 x7 (ui S 57 (upd (ai S 57) (Int32.toNatClampNeg (Int64.toInt32 (x7 - (Int32.toInt64 x3)))) (vp_nar .boolean (1 : Int32)))))
set_option maxRecDepth 100000 in
theorem X_w_strikeMultiples_36 {nL : Nat} {xs : Nat → Int32} {M : Sto} {O : Sto} {d : Nat} (hd : 6 ≤ d) : ∀ n : Nat, ∀ (x1 : Int64) (x3 : Int32) (x4 : Int32) (x7 : Int64) (S : Sto) (r : Unit) (S' : Sto), F_w_strikeMultiples_36 n x1 x3 x4 x7 S = some (r, S') → EX nL xs 0 MI_212 d 36 [some (.ref 0), some (.long x1), none, some (.int x3), some (.int x4), none, none, some (.long x7), none, none] [] (S, M, O) (.inl none) (S', M, O) := by
  intro n
  induction n with
  | zero => intro x1 x3 x4 x7 S r S' hF; cases hF
  | succ n ih =>
  intro x1 x3 x4 x7 S r S' hF
  unfold F_w_strikeMultiples_36 at hF
  refine Ex_go 5 (pc' := if 0 < (lg_cmp x7 (Int32.toInt64 x4)) then 85 else 45) (L' := [some (.ref 0), some (.long x1), none, some (.int x3), some (.int x4), none, none, some (.long x7), none, none]) (st' := []) (σ' := (S, M, O)) (rfl) ?_
  refine Ex_brI lc_gt (fun hc => ?_) (fun hc => ?_)
  · rw [if_pos hc] at hF
    cases hF
    exact Ex_fin rfl
  · rw [if_neg hc] at hF
    refine Ex_go 8 (pc' := if (Int64.toInt32 (x7 - (Int32.toInt64 x3))) < 0 then 76 else 58) (L' := [some (.ref 0), some (.long x1), none, some (.int x3), some (.int x4), none, none, some (.long x7), none, some (.int (Int64.toInt32 (x7 - (Int32.toInt64 x3))))]) (st' := []) (σ' := (S, M, O)) (rfl) ?_
    refine Ex_br (fun hc => ?_) (fun hc => ?_)
    · rw [if_pos hc] at hF
      exact Ex_mono (L := [some (.ref 0), some (.long x1), none, some (.int x3), some (.int x4), none, none, some (.long x7), none, none]) (Le_s (Le_s (Le_n (Le_s (Le_s (Le_n (Le_n (Le_s (Le_n (Le_n (Le_0))))))))))) (X_w_strikeMultiples_76 hd ih _ _ _ _ _ _ _ hF) (Nat.le_refl _) (by omega)
    · rw [if_neg hc] at hF
      refine Ex_go 5 (pc' := if (nI 2001) ≤ (Int64.toInt32 (x7 - (Int32.toInt64 x3))) then 76 else 68) (L' := [some (.ref 0), some (.long x1), none, some (.int x3), some (.int x4), none, none, some (.long x7), none, some (.int (Int64.toInt32 (x7 - (Int32.toInt64 x3))))]) (st' := []) (σ' := (S, M, O)) (rfl) ?_
      refine Ex_br (fun hc => ?_) (fun hc => ?_)
      · rw [if_pos hc] at hF
        exact Ex_mono (L := [some (.ref 0), some (.long x1), none, some (.int x3), some (.int x4), none, none, some (.long x7), none, none]) (Le_s (Le_s (Le_n (Le_s (Le_s (Le_n (Le_n (Le_s (Le_n (Le_n (Le_0))))))))))) (X_w_strikeMultiples_76 hd ih _ _ _ _ _ _ _ hF) (Nat.le_refl _) (by omega)
      · rw [if_neg hc] at hF
        refine Ex_go 4 (pc' := 75) (L' := [some (.ref 0), some (.long x1), none, some (.int x3), some (.int x4), none, none, some (.long x7), none, some (.int (Int64.toInt32 (x7 - (Int32.toInt64 x3))))]) (st' := [.int (1 : Int32), .int (Int64.toInt32 (x7 - (Int32.toInt64 x3))), .ref 57]) (σ' := (S, M, O)) (rfl) ?_
        obtain ⟨hc1, hF⟩ := ck_i hF
        refine Ex_chk (b := ib (Int64.toInt32 (x7 - (Int32.toInt64 x3))) 2001) (pc' := 76) (L' := [some (.ref 0), some (.long x1), none, some (.int x3), some (.int x4), none, none, some (.long x7), none, some (.int (Int64.toInt32 (x7 - (Int32.toInt64 x3))))]) (st' := []) (σ' := ((ui S 57 (upd (ai S 57) (Int32.toNatClampNeg (Int64.toInt32 (x7 - (Int32.toInt64 x3)))) (vp_nar .boolean (1 : Int32)))), M, O)) rfl hc1 ?_
        exact Ex_mono (L := [some (.ref 0), some (.long x1), none, some (.int x3), some (.int x4), none, none, some (.long x7), none, none]) (Le_s (Le_s (Le_n (Le_s (Le_s (Le_n (Le_n (Le_s (Le_n (Le_n (Le_0))))))))))) (X_w_strikeMultiples_76 hd ih _ _ _ _ _ _ _ hF) (Nat.le_refl _) (by omega)
def F_w_strikeMultiples (x1 : Int64) (x3 : Int32) (x4 : Int32) (S : Sto) : Option (Unit × Sto) := if (2 : Int64) ≤ x1 then b1 (F_w_remainder (Int32.toInt64 x3) x1) (fun r1 => b1 (F_w_remainder (x1 - r1) x1) (fun r3 => F_w_strikeMultiples_36 FU x1 x3 x4 (mxL (x1 * x1) ((Int32.toInt64 x3) + r3)) S)) else some ((), S)
set_option maxRecDepth 100000 in
theorem X_w_strikeMultiples {nL : Nat} {xs : Nat → Int32} {M : Sto} {O : Sto} {d : Nat} (hd : 6 ≤ d) : ∀ (x1 : Int64) (x3 : Int32) (x4 : Int32) (S : Sto) (r : Unit) (S' : Sto), F_w_strikeMultiples x1 x3 x4 S = some (r, S') → EX nL xs 0 MI_212 d 0 [some (.ref 0), some (.long x1), none, some (.int x3), some (.int x4), none, none, none, none, none] [] (S, M, O) (.inl none) (S', M, O) := by
  intro x1 x3 x4 S r S' hF
  unfold F_w_strikeMultiples at hF
  refine Ex_go 4 (pc' := if 0 ≤ (lg_cmp x1 (2 : Int64)) then 9 else 8) (L' := [some (.ref 0), some (.long x1), none, some (.int x3), some (.int x4), none, none, none, none, none]) (st' := []) (σ' := (S, M, O)) (rfl) ?_
  refine Ex_brI lc_ge (fun hc => ?_) (fun hc => ?_)
  · rw [if_pos hc] at hF
    refine Ex_go 9 (pc' := 18) (L' := [some (.ref 0), some (.long x1), none, some (.int x3), some (.int x4), none, none, none, none, none]) (st' := [.long x1, .long (Int32.toInt64 x3), .long x1, .long (Int32.toInt64 x3), .long (x1 * x1)]) (σ' := (S, M, O)) (rfl) ?_
    obtain ⟨r1, hx2, hF⟩ := b1_i hF
    refine Ex_call (kind := 0) (y := 41) (as := [.long (Int32.toInt64 x3), .long x1]) (rest := [.long x1, .long (Int32.toInt64 x3), .long (x1 * x1)]) (L0 := [some (.long (Int32.toInt64 x3)), none, some (.long x1), none]) (d' := 1) (v := some (.long r1)) (σ1 := (S, M, O)) rfl rfl mt_41 rfl rfl (by omega) (X_w_remainder (Nat.le_refl _) _ _ _ hx2) (Ex_st (st2 := [.long r1, .long x1, .long (Int32.toInt64 x3), .long (x1 * x1)]) rfl ?_)
    refine Ex_go 2 (pc' := 23) (L' := [some (.ref 0), some (.long x1), none, some (.int x3), some (.int x4), none, none, none, none, none]) (st' := [.long x1, .long (x1 - r1), .long (Int32.toInt64 x3), .long (x1 * x1)]) (σ' := (S, M, O)) (rfl) ?_
    obtain ⟨r3, hx4, hF⟩ := b1_i hF
    refine Ex_call (kind := 0) (y := 41) (as := [.long (x1 - r1), .long x1]) (rest := [.long (Int32.toInt64 x3), .long (x1 * x1)]) (L0 := [some (.long (x1 - r1)), none, some (.long x1), none]) (d' := 1) (v := some (.long r3)) (σ1 := (S, M, O)) rfl rfl mt_41 rfl rfl (by omega) (X_w_remainder (Nat.le_refl _) _ _ _ hx4) (Ex_st (st2 := [.long r3, .long (Int32.toInt64 x3), .long (x1 * x1)]) rfl ?_)
    refine Ex_go 1 (pc' := 27) (L' := [some (.ref 0), some (.long x1), none, some (.int x3), some (.int x4), none, none, none, none, none]) (st' := [.long ((Int32.toInt64 x3) + r3), .long (x1 * x1)]) (σ' := (S, M, O)) (rfl) ?_
    refine Ex_blt (kind := 11) (y := 0) (as := [.long (x1 * x1), .long ((Int32.toInt64 x3) + r3)]) (rest := []) (v := .long (mxL (x1 * x1) ((Int32.toInt64 x3) + r3))) rfl rfl (by omega) ?_
    refine Ex_go 3 (pc' := 36) (L' := [some (.ref 0), some (.long x1), none, some (.int x3), some (.int x4), some (.long (mxL (x1 * x1) ((Int32.toInt64 x3) + r3))), none, some (.long (mxL (x1 * x1) ((Int32.toInt64 x3) + r3))), none, none]) (st' := []) (σ' := (S, M, O)) (rfl) ?_
    exact Ex_mono (L := [some (.ref 0), some (.long x1), none, some (.int x3), some (.int x4), none, none, some (.long (mxL (x1 * x1) ((Int32.toInt64 x3) + r3))), none, none]) (Le_s (Le_s (Le_n (Le_s (Le_s (Le_n (Le_n (Le_s (Le_n (Le_n (Le_0))))))))))) (X_w_strikeMultiples_36 hd FU _ _ _ _ _ _ _ hF) (Nat.le_refl _) (by omega)
  · rw [if_neg hc] at hF
    cases hF
    exact Ex_fin rfl
def F_w_strike_28 (k2 : Int32 → Int32 → Int32 → Sto → Option (Unit × Sto)) (x1 : Int32) (x2 : Int32) (x3 : Int32) (s1 : Int32) (s2 : Int32) (S : Sto) : Option (Unit × Sto) := ck (ib s1 2001) (k2 x1 x2 (x3 + (1 : Int32)) (ui S 57 (upd (ai S 57) (Int32.toNatClampNeg s1) (vp_nar .boolean s2))))
set_option maxRecDepth 100000 in
theorem X_w_strike_28 {nL : Nat} {xs : Nat → Int32} {M : Sto} {O : Sto} {d : Nat} (hd : 7 ≤ d) {k2 : Int32 → Int32 → Int32 → Sto → Option (Unit × Sto)} (hk2 : ∀ (x1 : Int32) (x2 : Int32) (x3 : Int32) (S : Sto) (r : Unit) (S' : Sto), k2 x1 x2 x3 S = some (r, S') → EX nL xs 0 MI_213 d 2 [some (.ref 0), some (.int x1), some (.int x2), some (.int x3), none] [] (S, M, O) (.inl none) (S', M, O)) : ∀ (x1 : Int32) (x2 : Int32) (x3 : Int32) (s1 : Int32) (s2 : Int32) (S : Sto) (r : Unit) (S' : Sto), F_w_strike_28 k2 x1 x2 x3 s1 s2 S = some (r, S') → EX nL xs 0 MI_213 d 28 [some (.ref 0), some (.int x1), some (.int x2), some (.int x3), none] [.int s2, .int s1, .ref 57] (S, M, O) (.inl none) (S', M, O) := by
  intro x1 x2 x3 s1 s2 S r S' hF
  unfold F_w_strike_28 at hF
  obtain ⟨hc1, hF⟩ := ck_i hF
  refine Ex_chk (b := ib s1 2001) (pc' := 29) (L' := [some (.ref 0), some (.int x1), some (.int x2), some (.int x3), none]) (st' := []) (σ' := ((ui S 57 (upd (ai S 57) (Int32.toNatClampNeg s1) (vp_nar .boolean s2))), M, O)) rfl hc1 ?_
  refine Ex_go 2 (pc' := 2) (L' := [some (.ref 0), some (.int x1), some (.int x2), some (.int (x3 + (1 : Int32))), none]) (st' := []) (σ' := ((ui S 57 (upd (ai S 57) (Int32.toNatClampNeg s1) (vp_nar .boolean s2))), M, O)) (rfl) ?_
  exact Ex_mono (L := [some (.ref 0), some (.int x1), some (.int x2), some (.int (x3 + (1 : Int32))), none]) (Le_s (Le_s (Le_s (Le_s (Le_n (Le_0)))))) (hk2 _ _ _ _ _ _ hF) (Nat.le_refl _) (by omega)
def F_w_strike_48 : Nat → Int32 → Int32 → Int64 → Sto → Option (Unit × Sto)
  | 0, _, _, _, _ => none
  | n + 1, x1, x2, x3, S => if (Int32.toInt64 x2) < (x3 * x3) then some ((), S) else b2 (F_w_strikeMultiples x3 x1 x2 S) (fun r1 S3 => F_w_strike_48 n x1 x2 (x3 + (2 : Int64)) S3)
set_option maxRecDepth 100000 in
theorem X_w_strike_48 {nL : Nat} {xs : Nat → Int32} {M : Sto} {O : Sto} {d : Nat} (hd : 7 ≤ d) : ∀ n : Nat, ∀ (x1 : Int32) (x2 : Int32) (x3 : Int64) (S : Sto) (r : Unit) (S' : Sto), F_w_strike_48 n x1 x2 x3 S = some (r, S') → EX nL xs 0 MI_213 d 48 [some (.ref 0), some (.int x1), some (.int x2), some (.long x3), none] [] (S, M, O) (.inl none) (S', M, O) := by
  intro n
  induction n with
  | zero => intro x1 x2 x3 S r S' hF; cases hF
  | succ n ih =>
  intro x1 x2 x3 S r S' hF
  unfold F_w_strike_48 at hF
  refine Ex_go 7 (pc' := if 0 < (lg_cmp (x3 * x3) (Int32.toInt64 x2)) then 73 else 57) (L' := [some (.ref 0), some (.int x1), some (.int x2), some (.long x3), none]) (st' := []) (σ' := (S, M, O)) (rfl) ?_
  refine Ex_brI lc_gt (fun hc => ?_) (fun hc => ?_)
  · rw [if_pos hc] at hF
    cases hF
    exact Ex_fin rfl
  · rw [if_neg hc] at hF
    refine Ex_go 4 (pc' := 61) (L' := [some (.ref 0), some (.int x1), some (.int x2), some (.long x3), none]) (st' := [.int x2, .int x1, .long x3, .ref 0]) (σ' := (S, M, O)) (rfl) ?_
    obtain ⟨r1, S3, hx2, hF⟩ := b2_i hF
    refine Ex_call (kind := 2) (y := 212) (as := [.ref 0, .long x3, .int x1, .int x2]) (rest := []) (L0 := [some (.ref 0), some (.long x3), none, some (.int x1), some (.int x2), none, none, none, none, none]) (d' := 6) (v := none) (σ1 := (S3, M, O)) rfl rfl mt_212 rfl rfl (by omega) (X_w_strikeMultiples (Nat.le_refl _) _ _ _ _ _ _ hx2) (Ex_st (st2 := []) rfl ?_)
    refine Ex_go 5 (pc' := 48) (L' := [some (.ref 0), some (.int x1), some (.int x2), some (.long (x3 + (2 : Int64))), none]) (st' := []) (σ' := (S3, M, O)) (rfl) ?_
    exact Ex_mono (L := [some (.ref 0), some (.int x1), some (.int x2), some (.long (x3 + (2 : Int64))), none]) (Le_s (Le_s (Le_s (Le_s (Le_n (Le_0)))))) (ih _ _ _ _ _ _ hF) (Nat.le_refl _) (by omega)
def F_w_strike_2 : Nat → Int32 → Int32 → Int32 → Sto → Option (Unit × Sto)
  | 0, _, _, _, _ => none
  | n + 1, x1, x2, x3, S => if (nI 2001) ≤ x3 then b2 (F_w_strikeMultiples (2 : Int64) x1 x2 S) (fun r1 S3 => F_w_strike_48 FU x1 x2 (3 : Int64) S3) else if (2 : Int32) ≤ (x1 + x3) then F_w_strike_28 (F_w_strike_2 n) x1 x2 x3 x3 (0 : Int32) S else F_w_strike_28 (F_w_strike_2 n) x1 x2 x3 x3 (1 : Int32) S
set_option maxRecDepth 100000 in
theorem X_w_strike_2 {nL : Nat} {xs : Nat → Int32} {M : Sto} {O : Sto} {d : Nat} (hd : 7 ≤ d) : ∀ n : Nat, ∀ (x1 : Int32) (x2 : Int32) (x3 : Int32) (S : Sto) (r : Unit) (S' : Sto), F_w_strike_2 n x1 x2 x3 S = some (r, S') → EX nL xs 0 MI_213 d 2 [some (.ref 0), some (.int x1), some (.int x2), some (.int x3), none] [] (S, M, O) (.inl none) (S', M, O) := by
  intro n
  induction n with
  | zero => intro x1 x2 x3 S r S' hF; cases hF
  | succ n ih =>
  intro x1 x2 x3 S r S' hF
  unfold F_w_strike_2 at hF
  refine Ex_go 5 (pc' := if (nI 2001) ≤ x3 then 35 else 11) (L' := [some (.ref 0), some (.int x1), some (.int x2), some (.int x3), none]) (st' := []) (σ' := (S, M, O)) (rfl) ?_
  refine Ex_br (fun hc => ?_) (fun hc => ?_)
  · rw [if_pos hc] at hF
    refine Ex_go 4 (pc' := 41) (L' := [some (.ref 0), some (.int x1), some (.int x2), some (.int x3), none]) (st' := [.int x2, .int x1, .long (2 : Int64), .ref 0]) (σ' := (S, M, O)) (rfl) ?_
    obtain ⟨r1, S3, hx2, hF⟩ := b2_i hF
    refine Ex_call (kind := 2) (y := 212) (as := [.ref 0, .long (2 : Int64), .int x1, .int x2]) (rest := []) (L0 := [some (.ref 0), some (.long (2 : Int64)), none, some (.int x1), some (.int x2), none, none, none, none, none]) (d' := 6) (v := none) (σ1 := (S3, M, O)) rfl rfl mt_212 rfl rfl (by omega) (X_w_strikeMultiples (Nat.le_refl _) _ _ _ _ _ _ hx2) (Ex_st (st2 := []) rfl ?_)
    refine Ex_go 2 (pc' := 48) (L' := [some (.ref 0), some (.int x1), some (.int x2), some (.long (3 : Int64)), none]) (st' := []) (σ' := (S3, M, O)) (rfl) ?_
    exact Ex_mono (L := [some (.ref 0), some (.int x1), some (.int x2), some (.long (3 : Int64)), none]) (Le_s (Le_s (Le_s (Le_s (Le_n (Le_0)))))) (X_w_strike_48 hd FU _ _ _ _ _ _ hF) (Nat.le_refl _) (by omega)
  · rw [if_neg hc] at hF
    refine Ex_go 8 (pc' := if (2 : Int32) ≤ (x1 + x3) then 27 else 23) (L' := [some (.ref 0), some (.int x1), some (.int x2), some (.int x3), none]) (st' := [.int x3, .ref 57]) (σ' := (S, M, O)) (rfl) ?_
    refine Ex_br (fun hc => ?_) (fun hc => ?_)
    · rw [if_pos hc] at hF
      refine Ex_go 1 (pc' := 28) (L' := [some (.ref 0), some (.int x1), some (.int x2), some (.int x3), none]) (st' := [.int (0 : Int32), .int x3, .ref 57]) (σ' := (S, M, O)) (rfl) ?_
      exact Ex_mono (L := [some (.ref 0), some (.int x1), some (.int x2), some (.int x3), none]) (Le_s (Le_s (Le_s (Le_s (Le_n (Le_0)))))) (X_w_strike_28 hd ih _ _ _ _ _ _ _ _ hF) (Nat.le_refl _) (by omega)
    · rw [if_neg hc] at hF
      refine Ex_go 2 (pc' := 28) (L' := [some (.ref 0), some (.int x1), some (.int x2), some (.int x3), none]) (st' := [.int (1 : Int32), .int x3, .ref 57]) (σ' := (S, M, O)) (rfl) ?_
      exact Ex_mono (L := [some (.ref 0), some (.int x1), some (.int x2), some (.int x3), none]) (Le_s (Le_s (Le_s (Le_s (Le_n (Le_0)))))) (X_w_strike_28 hd ih _ _ _ _ _ _ _ _ hF) (Nat.le_refl _) (by omega)
def F_w_strike (x1 : Int32) (x2 : Int32) (S : Sto) : Option (Unit × Sto) := F_w_strike_2 FU x1 x2 (0 : Int32) S
set_option maxRecDepth 100000 in
theorem X_w_strike {nL : Nat} {xs : Nat → Int32} {M : Sto} {O : Sto} {d : Nat} (hd : 7 ≤ d) : ∀ (x1 : Int32) (x2 : Int32) (S : Sto) (r : Unit) (S' : Sto), F_w_strike x1 x2 S = some (r, S') → EX nL xs 0 MI_213 d 0 [some (.ref 0), some (.int x1), some (.int x2), none, none] [] (S, M, O) (.inl none) (S', M, O) := by
  intro x1 x2 S r S' hF
  unfold F_w_strike at hF
  refine Ex_go 2 (pc' := 2) (L' := [some (.ref 0), some (.int x1), some (.int x2), some (.int (0 : Int32)), none]) (st' := []) (σ' := (S, M, O)) (rfl) ?_
  exact Ex_mono (L := [some (.ref 0), some (.int x1), some (.int x2), some (.int (0 : Int32)), none]) (Le_s (Le_s (Le_s (Le_s (Le_n (Le_0)))))) (X_w_strike_2 hd FU _ _ _ _ _ _ hF) (Nat.le_refl _) (by omega)
def F_w_primes_28 (S : Sto) : Option ((Int32 ⊕ Nat) × Sto) := some ((.inr 0), S)
set_option maxRecDepth 100000 in
theorem X_w_primes_28 {nL : Nat} {xs : Nat → Int32} {M : Sto} {O : Sto} {d : Nat} (hd : 8 ≤ d) : ∀ (S : Sto) (r : Int32 ⊕ Nat) (S' : Sto), F_w_primes_28 S = some (r, S') → EX nL xs 1 MI_214 d 28 [none, none, none, none, none] [] (S, M, O) (rsI r) (S', M, O) := by
  intro S r S' hF
  unfold F_w_primes_28 at hF
  cases hF
  exact Ex_thr rfl (by omega) (Nat.le_refl _)
def F_w_primes_78 (k47 : Int32 → Int32 → Int32 → Int32 → Sto → Option ((Int32 ⊕ Nat) × Sto)) (x1 : Int32) (x2 : Int32) (x3 : Int32) (x4 : Int32) (S : Sto) : Option ((Int32 ⊕ Nat) × Sto) := k47 x1 x2 x3 (x4 + (1 : Int32)) S
set_option maxRecDepth 100000 in
theorem X_w_primes_78 {nL : Nat} {xs : Nat → Int32} {M : Sto} {O : Sto} {d : Nat} (hd : 8 ≤ d) {k47 : Int32 → Int32 → Int32 → Int32 → Sto → Option ((Int32 ⊕ Nat) × Sto)} (hk47 : ∀ (x1 : Int32) (x2 : Int32) (x3 : Int32) (x4 : Int32) (S : Sto) (r : Int32 ⊕ Nat) (S' : Sto), k47 x1 x2 x3 x4 S = some (r, S') → EX nL xs 1 MI_214 d 47 [some (.ref 0), some (.int x1), some (.int x2), some (.int x3), some (.int x4)] [] (S, M, O) (rsI r) (S', M, O)) : ∀ (x1 : Int32) (x2 : Int32) (x3 : Int32) (x4 : Int32) (S : Sto) (r : Int32 ⊕ Nat) (S' : Sto), F_w_primes_78 k47 x1 x2 x3 x4 S = some (r, S') → EX nL xs 1 MI_214 d 78 [some (.ref 0), some (.int x1), some (.int x2), some (.int x3), some (.int x4)] [] (S, M, O) (rsI r) (S', M, O) := by
  intro x1 x2 x3 x4 S r S' hF
  unfold F_w_primes_78 at hF
  refine Ex_go 2 (pc' := 47) (L' := [some (.ref 0), some (.int x1), some (.int x2), some (.int x3), some (.int (x4 + (1 : Int32)))]) (st' := []) (σ' := (S, M, O)) (rfl) ?_
  exact Ex_mono (L := [some (.ref 0), some (.int x1), some (.int x2), some (.int x3), some (.int (x4 + (1 : Int32)))]) (Le_s (Le_s (Le_s (Le_s (Le_s (Le_0)))))) (hk47 _ _ _ _ _ _ _ hF) (Nat.le_refl _) (by omega)
def F_w_primes_47 : Nat → Int32 → Int32 → Int32 → Int32 → Sto → Option ((Int32 ⊕ Nat) × Sto)
  | 0, _, _, _, _, _ => none
  | n + 1, x1, x2, x3, x4, S => if (x2 - x1) < x4 then some ((.inl x3), S) else if (nI 2001) ≤ x4 then some ((.inl x3), S) else ck (ib x4 2001) (if (ai S 57 (Int32.toNatClampNeg x4)) = 0 then F_w_primes_78 (F_w_primes_47 n) x1 x2 (x3 + (1 : Int32)) x4 S else F_w_primes_78 (F_w_primes_47 n) x1 x2 x3 x4 S)
set_option maxRecDepth 100000 in
theorem X_w_primes_47 {nL : Nat} {xs : Nat → Int32} {M : Sto} {O : Sto} {d : Nat} (hd : 8 ≤ d) : ∀ n : Nat, ∀ (x1 : Int32) (x2 : Int32) (x3 : Int32) (x4 : Int32) (S : Sto) (r : Int32 ⊕ Nat) (S' : Sto), F_w_primes_47 n x1 x2 x3 x4 S = some (r, S') → EX nL xs 1 MI_214 d 47 [some (.ref 0), some (.int x1), some (.int x2), some (.int x3), some (.int x4)] [] (S, M, O) (rsI r) (S', M, O) := by
  intro n
  induction n with
  | zero => intro x1 x2 x3 x4 S r S' hF; cases hF
  | succ n ih =>
  intro x1 x2 x3 x4 S r S' hF
  unfold F_w_primes_47 at hF
  refine Ex_go 5 (pc' := if (x2 - x1) < x4 then 84 else 55) (L' := [some (.ref 0), some (.int x1), some (.int x2), some (.int x3), some (.int x4)]) (st' := []) (σ' := (S, M, O)) (rfl) ?_
  refine Ex_br (fun hc => ?_) (fun hc => ?_)
  · rw [if_pos hc] at hF
    refine Ex_go 1 (pc' := 85) (L' := [some (.ref 0), some (.int x1), some (.int x2), some (.int x3), some (.int x4)]) (st' := [.int x3]) (σ' := (S, M, O)) (rfl) ?_
    cases hF
    exact Ex_fin rfl
  · rw [if_neg hc] at hF
    refine Ex_go 5 (pc' := if (nI 2001) ≤ x4 then 84 else 65) (L' := [some (.ref 0), some (.int x1), some (.int x2), some (.int x3), some (.int x4)]) (st' := []) (σ' := (S, M, O)) (rfl) ?_
    refine Ex_br (fun hc => ?_) (fun hc => ?_)
    · rw [if_pos hc] at hF
      refine Ex_go 1 (pc' := 85) (L' := [some (.ref 0), some (.int x1), some (.int x2), some (.int x3), some (.int x4)]) (st' := [.int x3]) (σ' := (S, M, O)) (rfl) ?_
      cases hF
      exact Ex_fin rfl
    · rw [if_neg hc] at hF
      refine Ex_go 3 (pc' := 71) (L' := [some (.ref 0), some (.int x1), some (.int x2), some (.int x3), some (.int x4)]) (st' := [.int x4, .ref 57]) (σ' := (S, M, O)) (rfl) ?_
      obtain ⟨hc1, hF⟩ := ck_i hF
      refine Ex_chk (b := ib x4 2001) (pc' := 72) (L' := [some (.ref 0), some (.int x1), some (.int x2), some (.int x3), some (.int x4)]) (st' := [.int (ai S 57 (Int32.toNatClampNeg x4))]) (σ' := (S, M, O)) rfl hc1 ?_
      refine Ex_go 1 (pc' := if ¬ (ai S 57 (Int32.toNatClampNeg x4)) = 0 then 78 else 75) (L' := [some (.ref 0), some (.int x1), some (.int x2), some (.int x3), some (.int x4)]) (st' := []) (σ' := (S, M, O)) (rfl) ?_
      refine Ex_brN (fun hc => ?_) (fun hc => ?_)
      · rw [if_pos hc] at hF
        refine Ex_go 1 (pc' := 78) (L' := [some (.ref 0), some (.int x1), some (.int x2), some (.int (x3 + (1 : Int32))), some (.int x4)]) (st' := []) (σ' := (S, M, O)) (rfl) ?_
        exact Ex_mono (L := [some (.ref 0), some (.int x1), some (.int x2), some (.int (x3 + (1 : Int32))), some (.int x4)]) (Le_s (Le_s (Le_s (Le_s (Le_s (Le_0)))))) (X_w_primes_78 hd ih _ _ _ _ _ _ _ hF) (Nat.le_refl _) (by omega)
      · rw [if_neg hc] at hF
        exact Ex_mono (L := [some (.ref 0), some (.int x1), some (.int x2), some (.int x3), some (.int x4)]) (Le_s (Le_s (Le_s (Le_s (Le_s (Le_0)))))) (X_w_primes_78 hd ih _ _ _ _ _ _ _ hF) (Nat.le_refl _) (by omega)
def F_w_primes (x1 : Int32) (x2 : Int32) (S : Sto) : Option ((Int32 ⊕ Nat) × Sto) := b1 (F_w_isDivided x1) (fun r1 => if r1 = 0 then F_w_primes_28 S else b1 (F_w_isDivided x2) (fun r3 => if r3 = 0 then F_w_primes_28 S else if x2 < x1 then F_w_primes_28 S else if x2 ≤ (x1 + (2000 : Int32)) then b2 (F_w_strike x1 x2 S) (fun r5 S7 => F_w_primes_47 FU x1 x2 (0 : Int32) (0 : Int32) S7) else F_w_primes_28 S))
set_option maxRecDepth 100000 in
theorem X_w_primes {nL : Nat} {xs : Nat → Int32} {M : Sto} {O : Sto} {d : Nat} (hd : 8 ≤ d) : ∀ (x1 : Int32) (x2 : Int32) (S : Sto) (r : Int32 ⊕ Nat) (S' : Sto), F_w_primes x1 x2 S = some (r, S') → EX nL xs 1 MI_214 d 0 [some (.ref 0), some (.int x1), some (.int x2), none, none] [] (S, M, O) (rsI r) (S', M, O) := by
  intro x1 x2 S r S' hF
  unfold F_w_primes at hF
  refine Ex_go 1 (pc' := 1) (L' := [some (.ref 0), some (.int x1), some (.int x2), none, none]) (st' := [.int x1]) (σ' := (S, M, O)) (rfl) ?_
  obtain ⟨r1, hx2, hF⟩ := b1_i hF
  refine Ex_callK (K1 := 0) (K2 := 1) (kind := 0) (y := 195) (as := [.int x1]) (rest := []) (L0 := [some (.int x1)]) (d' := 1) (v := some (.int r1)) (σ1 := (S, M, O)) rfl rfl mt_195 rfl rfl (by omega) (X_w_isDivided (Nat.le_refl _) _ _ hx2) (Ex_st (st2 := [.int r1]) rfl ?_) (by omega)
  refine Ex_go 1 (pc' := if r1 = 0 then 28 else 7) (L' := [some (.ref 0), some (.int x1), some (.int x2), none, none]) (st' := []) (σ' := (S, M, O)) (rfl) ?_
  refine Ex_br (fun hc => ?_) (fun hc => ?_)
  · rw [if_pos hc] at hF
    exact Ex_mono (L := [none, none, none, none, none]) (Le_n (Le_n (Le_n (Le_n (Le_n (Le_0)))))) (X_w_primes_28 hd _ _ _ hF) (Nat.le_refl _) (by omega)
  · rw [if_neg hc] at hF
    refine Ex_go 1 (pc' := 8) (L' := [some (.ref 0), some (.int x1), some (.int x2), none, none]) (st' := [.int x2]) (σ' := (S, M, O)) (rfl) ?_
    obtain ⟨r3, hx4, hF⟩ := b1_i hF
    refine Ex_callK (K1 := 0) (K2 := 1) (kind := 0) (y := 195) (as := [.int x2]) (rest := []) (L0 := [some (.int x2)]) (d' := 1) (v := some (.int r3)) (σ1 := (S, M, O)) rfl rfl mt_195 rfl rfl (by omega) (X_w_isDivided (Nat.le_refl _) _ _ hx4) (Ex_st (st2 := [.int r3]) rfl ?_) (by omega)
    refine Ex_go 1 (pc' := if r3 = 0 then 28 else 14) (L' := [some (.ref 0), some (.int x1), some (.int x2), none, none]) (st' := []) (σ' := (S, M, O)) (rfl) ?_
    refine Ex_br (fun hc => ?_) (fun hc => ?_)
    · rw [if_pos hc] at hF
      exact Ex_mono (L := [none, none, none, none, none]) (Le_n (Le_n (Le_n (Le_n (Le_n (Le_0)))))) (X_w_primes_28 hd _ _ _ hF) (Nat.le_refl _) (by omega)
    · rw [if_neg hc] at hF
      refine Ex_go 3 (pc' := if x2 < x1 then 28 else 19) (L' := [some (.ref 0), some (.int x1), some (.int x2), none, none]) (st' := []) (σ' := (S, M, O)) (rfl) ?_
      refine Ex_br (fun hc => ?_) (fun hc => ?_)
      · rw [if_pos hc] at hF
        exact Ex_mono (L := [none, none, none, none, none]) (Le_n (Le_n (Le_n (Le_n (Le_n (Le_0)))))) (X_w_primes_28 hd _ _ _ hF) (Nat.le_refl _) (by omega)
      · rw [if_neg hc] at hF
        refine Ex_go 5 (pc' := if x2 ≤ (x1 + (2000 : Int32)) then 36 else 28) (L' := [some (.ref 0), some (.int x1), some (.int x2), none, none]) (st' := []) (σ' := (S, M, O)) (rfl) ?_
        refine Ex_br (fun hc => ?_) (fun hc => ?_)
        · rw [if_pos hc] at hF
          refine Ex_go 3 (pc' := 39) (L' := [some (.ref 0), some (.int x1), some (.int x2), none, none]) (st' := [.int x2, .int x1, .ref 0]) (σ' := (S, M, O)) (rfl) ?_
          obtain ⟨r5, S7, hx6, hF⟩ := b2_i hF
          refine Ex_callK (K1 := 0) (K2 := 1) (kind := 2) (y := 213) (as := [.ref 0, .int x1, .int x2]) (rest := []) (L0 := [some (.ref 0), some (.int x1), some (.int x2), none, none]) (d' := 7) (v := none) (σ1 := (S7, M, O)) rfl rfl mt_213 rfl rfl (by omega) (X_w_strike (Nat.le_refl _) _ _ _ _ _ hx6) (Ex_st (st2 := []) rfl ?_) (by omega)
          refine Ex_go 4 (pc' := 47) (L' := [some (.ref 0), some (.int x1), some (.int x2), some (.int (0 : Int32)), some (.int (0 : Int32))]) (st' := []) (σ' := (S7, M, O)) (rfl) ?_
          exact Ex_mono (L := [some (.ref 0), some (.int x1), some (.int x2), some (.int (0 : Int32)), some (.int (0 : Int32))]) (Le_s (Le_s (Le_s (Le_s (Le_s (Le_0)))))) (X_w_primes_47 hd FU _ _ _ _ _ _ _ hF) (Nat.le_refl _) (by omega)
        · rw [if_neg hc] at hF
          exact Ex_mono (L := [none, none, none, none, none]) (Le_n (Le_n (Le_n (Le_n (Le_n (Le_0)))))) (X_w_primes_28 hd _ _ _ hF) (Nat.le_refl _) (by omega)
def F_l_primes (x1 : Int32) (x2 : Int32) (S : Sto) (O : Sto) : Option (Int32 × Sto × Sto) := b2 (F_w_primes x1 x2 S) (fun r1 S3 => su r1 (fun v4 => some ((0 : Int32), S3, (ul O 2000 (vp_updL (al O 2000) (Int32.toNatClampNeg (0 : Int32)) (Int32.toInt64 v4))))) (fun z5 => if z5 = 0 then some ((1 : Int32), S3, O) else (none)))
set_option maxRecDepth 100000 in
theorem X_l_primes {nL : Nat} {xs : Nat → Int32} {M : Sto} {d : Nat} (hd : 9 ≤ d) : ∀ (x1 : Int32) (x2 : Int32) (S : Sto) (O : Sto) (r : Int32) (S' : Sto) (O' : Sto), F_l_primes x1 x2 S O = some (r, S', O') → EX nL xs 1 MI_215 d 0 [some (.ref 0), some (.int x1), some (.int x2), some (.ref 2000), none] [] (S, M, O) (.inl (some (.int r))) (S', M, O') := by
  intro x1 x2 S O r S' O' hF
  unfold F_l_primes at hF
  refine Ex_go 5 (pc' := 5) (L' := [some (.ref 0), some (.int x1), some (.int x2), some (.ref 2000), none]) (st' := [.int x2, .int x1, .ref 0, .int (0 : Int32), .ref 2000]) (σ' := (S, M, O)) (rfl) ?_
  obtain ⟨r1, S3, hx2, hF⟩ := b2_i hF
  cases r1 with
  | inl v4 =>
    rw [su_l] at hF
    refine Ex_callK (K1 := 1) (K2 := 0) (kind := 3) (y := 214) (as := [.ref 0, .int x1, .int x2]) (rest := [.int (0 : Int32), .ref 2000]) (L0 := [some (.ref 0), some (.int x1), some (.int x2), none, none]) (d' := 8) (v := some (.int v4)) (σ1 := (S3, M, O)) rfl rfl mt_214 rfl rfl (by omega) (X_w_primes (Nat.le_refl _) _ _ _ _ _ hx2) (Ex_st (st2 := [.int v4, .int (0 : Int32), .ref 2000]) rfl ?_) (by omega)
    refine Ex_go 1 (pc' := 9) (L' := [some (.ref 0), some (.int x1), some (.int x2), some (.ref 2000), none]) (st' := [.long (Int32.toInt64 v4), .int (0 : Int32), .ref 2000]) (σ' := (S3, M, O)) (rfl) ?_
    refine Ex_chk (b := ib (0 : Int32) 1) (pc' := 10) (L' := [some (.ref 0), some (.int x1), some (.int x2), some (.ref 2000), none]) (st' := []) (σ' := (S3, M, (ul O 2000 (vp_updL (al O 2000) (Int32.toNatClampNeg (0 : Int32)) (Int32.toInt64 v4))))) rfl (by decide) ?_
    refine Ex_go 2 (pc' := 18) (L' := [some (.ref 0), some (.int x1), some (.int x2), some (.ref 2000), none]) (st' := [.int (0 : Int32)]) (σ' := (S3, M, (ul O 2000 (vp_updL (al O 2000) (Int32.toNatClampNeg (0 : Int32)) (Int32.toInt64 v4))))) (rfl) ?_
    cases hF
    exact Ex_fin rfl
  | inr z5 =>
    by_cases hz0 : z5 = 0
    · have hF : (if z5 = 0 then _ else _) = _ := hF
      rw [if_pos hz0] at hF
      subst hz0
      refine Ex_callX (K1 := 1) (K2 := 0) (y := 214) (as := [.ref 0, .int x1, .int x2]) (rest := [.int (0 : Int32), .ref 2000]) (L0 := [some (.ref 0), some (.int x1), some (.int x2), none, none]) (d' := 8) (σ1 := (S3, M, O)) (x := 0) (pc' := 15) (i := 4) rfl rfl mt_214 rfl rfl (by omega) (X_w_primes (Nat.le_refl _) _ _ _ _ _ hx2) rfl (Ex_L (L2 := [some (.ref 0), some (.int x1), some (.int x2), some (.ref 2000), none]) rfl ?_) (by omega)
      refine Ex_go 1 (pc' := 16) (L' := [some (.ref 0), some (.int x1), some (.int x2), some (.ref 2000), none]) (st' := [.int (1 : Int32)]) (σ' := (S3, M, O)) (rfl) ?_
      cases hF
      exact Ex_fin rfl
    have hF : (if z5 = 0 then _ else _) = _ := hF
    rw [if_neg hz0] at hF
    cases hF
def F_m_primes_35 (M : Sto) : Option (Int32 × Sto) := b2 (F_m_fail (1 : Int32) M) (fun r1 M3 => some (r1, M3))
set_option maxRecDepth 100000 in
theorem X_m_primes_35 {nL : Nat} {xs : Nat → Int32} {S : Sto} {O : Sto} {d : Nat} (hd : 3 ≤ d) : ∀ (M : Sto) (r : Int32) (M' : Sto), F_m_primes_35 M = some (r, M') → EX nL xs 0 MI_217 d 35 [some (.ref 1000), none, none, none, none] [] (S, M, O) (.inl (some (.int r))) (S, M', O) := by
  intro M r M' hF
  unfold F_m_primes_35 at hF
  refine Ex_go 2 (pc' := 37) (L' := [some (.ref 1000), none, none, none, none]) (st' := [.int (1 : Int32), .ref 1000]) (σ' := (S, M, O)) (rfl) ?_
  obtain ⟨r1, M3, hx2, hF⟩ := b2_i hF
  refine Ex_call (kind := 2) (y := 50) (as := [.ref 1000, .int (1 : Int32)]) (rest := []) (L0 := [some (.ref 1000), some (.int (1 : Int32))]) (d' := 1) (v := some (.int r1)) (σ1 := (S, M3, O)) rfl rfl mt_50 rfl rfl (by omega) (X_m_fail (Nat.le_refl _) _ _ _ _ hx2) (Ex_st (st2 := [.int r1]) rfl ?_)
  cases hF
  exact Ex_fin rfl
def F_m_primes_66 (k46 : Int32 → Int32 → Int32 → Sto → Option (Int32 × Sto)) (x2 : Int32) (x4 : Int32) (s0 : Int32) (s1 : Int32) (M : Sto) : Option (Int32 × Sto) := k46 x2 (s0 + s1) (x4 + (1 : Int32)) M
set_option maxRecDepth 100000 in
theorem X_m_primes_66 {nL : Nat} {xs : Nat → Int32} {S : Sto} {O : Sto} {d : Nat} (hd : 3 ≤ d) {k46 : Int32 → Int32 → Int32 → Sto → Option (Int32 × Sto)} (hk46 : ∀ (x2 : Int32) (x3 : Int32) (x4 : Int32) (M : Sto) (r : Int32) (M' : Sto), k46 x2 x3 x4 M = some (r, M') → EX nL xs 0 MI_217 d 46 [none, none, some (.int x2), some (.int x3), some (.int x4)] [] (S, M, O) (.inl (some (.int r))) (S, M', O)) : ∀ (x2 : Int32) (x4 : Int32) (s0 : Int32) (s1 : Int32) (M : Sto) (r : Int32) (M' : Sto), F_m_primes_66 k46 x2 x4 s0 s1 M = some (r, M') → EX nL xs 0 MI_217 d 66 [none, none, some (.int x2), none, some (.int x4)] [.int s1, .int s0] (S, M, O) (.inl (some (.int r))) (S, M', O) := by
  intro x2 x4 s0 s1 M r M' hF
  unfold F_m_primes_66 at hF
  refine Ex_go 4 (pc' := 46) (L' := [none, none, some (.int x2), some (.int (s0 + s1)), some (.int (x4 + (1 : Int32)))]) (st' := []) (σ' := (S, M, O)) (rfl) ?_
  exact Ex_mono (L := [none, none, some (.int x2), some (.int (s0 + s1)), some (.int (x4 + (1 : Int32)))]) (Le_n (Le_n (Le_s (Le_s (Le_s (Le_0)))))) (hk46 _ _ _ _ _ _ hF) (Nat.le_refl _) (by omega)
def F_m_primes_46 : Nat → Int32 → Int32 → Int32 → Sto → Option (Int32 × Sto)
  | 0, _, _, _, _ => none
  | n + 1, x2, x3, x4, M => if x2 < x4 then some (x3, M) else b1 (F_m_isPrime x4) (fun r1 => if r1 = 0 then F_m_primes_66 (F_m_primes_46 n) x2 x4 x3 (0 : Int32) M else F_m_primes_66 (F_m_primes_46 n) x2 x4 x3 (1 : Int32) M)
set_option maxRecDepth 100000 in
theorem X_m_primes_46 {nL : Nat} {xs : Nat → Int32} {S : Sto} {O : Sto} {d : Nat} (hd : 3 ≤ d) : ∀ n : Nat, ∀ (x2 : Int32) (x3 : Int32) (x4 : Int32) (M : Sto) (r : Int32) (M' : Sto), F_m_primes_46 n x2 x3 x4 M = some (r, M') → EX nL xs 0 MI_217 d 46 [none, none, some (.int x2), some (.int x3), some (.int x4)] [] (S, M, O) (.inl (some (.int r))) (S, M', O) := by
  intro n
  induction n with
  | zero => intro x2 x3 x4 M r M' hF; cases hF
  | succ n ih =>
  intro x2 x3 x4 M r M' hF
  unfold F_m_primes_46 at hF
  refine Ex_go 3 (pc' := if x2 < x4 then 74 else 52) (L' := [none, none, some (.int x2), some (.int x3), some (.int x4)]) (st' := []) (σ' := (S, M, O)) (rfl) ?_
  refine Ex_br (fun hc => ?_) (fun hc => ?_)
  · rw [if_pos hc] at hF
    refine Ex_go 1 (pc' := 75) (L' := [none, none, some (.int x2), some (.int x3), some (.int x4)]) (st' := [.int x3]) (σ' := (S, M, O)) (rfl) ?_
    cases hF
    exact Ex_fin rfl
  · rw [if_neg hc] at hF
    refine Ex_go 2 (pc' := 55) (L' := [none, none, some (.int x2), some (.int x3), some (.int x4)]) (st' := [.int x4, .int x3]) (σ' := (S, M, O)) (rfl) ?_
    obtain ⟨r1, hx2, hF⟩ := b1_i hF
    refine Ex_call (kind := 0) (y := 216) (as := [.int x4]) (rest := [.int x3]) (L0 := [some (.int x4), none]) (d' := 1) (v := some (.int r1)) (σ1 := (S, M, O)) rfl rfl mt_216 rfl rfl (by omega) (X_m_isPrime (Nat.le_refl _) _ _ hx2) (Ex_st (st2 := [.int r1, .int x3]) rfl ?_)
    refine Ex_go 1 (pc' := if r1 = 0 then 65 else 61) (L' := [none, none, some (.int x2), some (.int x3), some (.int x4)]) (st' := [.int x3]) (σ' := (S, M, O)) (rfl) ?_
    refine Ex_br (fun hc => ?_) (fun hc => ?_)
    · rw [if_pos hc] at hF
      refine Ex_go 1 (pc' := 66) (L' := [none, none, some (.int x2), some (.int x3), some (.int x4)]) (st' := [.int (0 : Int32), .int x3]) (σ' := (S, M, O)) (rfl) ?_
      exact Ex_mono (L := [none, none, some (.int x2), none, some (.int x4)]) (Le_n (Le_n (Le_s (Le_n (Le_s (Le_0)))))) (X_m_primes_66 hd ih _ _ _ _ _ _ _ hF) (Nat.le_refl _) (by omega)
    · rw [if_neg hc] at hF
      refine Ex_go 2 (pc' := 66) (L' := [none, none, some (.int x2), some (.int x3), some (.int x4)]) (st' := [.int (1 : Int32), .int x3]) (σ' := (S, M, O)) (rfl) ?_
      exact Ex_mono (L := [none, none, some (.int x2), none, some (.int x4)]) (Le_n (Le_n (Le_s (Le_n (Le_s (Le_0)))))) (X_m_primes_66 hd ih _ _ _ _ _ _ _ hF) (Nat.le_refl _) (by omega)
def F_m_primes (x1 : Int32) (x2 : Int32) (M : Sto) : Option (Int32 × Sto) := b1 (F_m_isSmall x1) (fun r1 => if r1 = 0 then F_m_primes_35 (si M 1001 (0 : Int32)) else b1 (F_m_isSmall x2) (fun r3 => if r3 = 0 then F_m_primes_35 (si M 1001 (0 : Int32)) else b1 (F_m_isIn (Int32.toInt64 x2) (Int32.toInt64 x1) ((Int32.toInt64 x1) + (2000 : Int64))) (fun r5 => if r5 = 0 then F_m_primes_35 (si M 1001 (0 : Int32)) else F_m_primes_46 FU x2 (0 : Int32) x1 (si M 1001 (0 : Int32)))))
set_option maxRecDepth 100000 in
theorem X_m_primes {nL : Nat} {xs : Nat → Int32} {S : Sto} {O : Sto} {d : Nat} (hd : 3 ≤ d) : ∀ (x1 : Int32) (x2 : Int32) (M : Sto) (r : Int32) (M' : Sto), F_m_primes x1 x2 M = some (r, M') → EX nL xs 0 MI_217 d 0 [some (.ref 1000), some (.int x1), some (.int x2), none, none] [] (S, M, O) (.inl (some (.int r))) (S, M', O) := by
  intro x1 x2 M r M' hF
  unfold F_m_primes at hF
  refine Ex_go 4 (pc' := 6) (L' := [some (.ref 1000), some (.int x1), some (.int x2), none, none]) (st' := [.int x1]) (σ' := (S, (si M 1001 (0 : Int32)), O)) (rfl) ?_
  obtain ⟨r1, hx2, hF⟩ := b1_i hF
  refine Ex_call (kind := 0) (y := 203) (as := [.int x1]) (rest := []) (L0 := [some (.int x1)]) (d' := 2) (v := some (.int r1)) (σ1 := (S, (si M 1001 (0 : Int32)), O)) rfl rfl mt_203 rfl rfl (by omega) (X_m_isSmall (Nat.le_refl _) _ _ hx2) (Ex_st (st2 := [.int r1]) rfl ?_)
  refine Ex_go 1 (pc' := if r1 = 0 then 35 else 12) (L' := [some (.ref 1000), some (.int x1), some (.int x2), none, none]) (st' := []) (σ' := (S, (si M 1001 (0 : Int32)), O)) (rfl) ?_
  refine Ex_br (fun hc => ?_) (fun hc => ?_)
  · rw [if_pos hc] at hF
    exact Ex_mono (L := [some (.ref 1000), none, none, none, none]) (Le_s (Le_n (Le_n (Le_n (Le_n (Le_0)))))) (X_m_primes_35 hd _ _ _ hF) (Nat.le_refl _) (by omega)
  · rw [if_neg hc] at hF
    refine Ex_go 1 (pc' := 13) (L' := [some (.ref 1000), some (.int x1), some (.int x2), none, none]) (st' := [.int x2]) (σ' := (S, (si M 1001 (0 : Int32)), O)) (rfl) ?_
    obtain ⟨r3, hx4, hF⟩ := b1_i hF
    refine Ex_call (kind := 0) (y := 203) (as := [.int x2]) (rest := []) (L0 := [some (.int x2)]) (d' := 2) (v := some (.int r3)) (σ1 := (S, (si M 1001 (0 : Int32)), O)) rfl rfl mt_203 rfl rfl (by omega) (X_m_isSmall (Nat.le_refl _) _ _ hx4) (Ex_st (st2 := [.int r3]) rfl ?_)
    refine Ex_go 1 (pc' := if r3 = 0 then 35 else 19) (L' := [some (.ref 1000), some (.int x1), some (.int x2), none, none]) (st' := []) (σ' := (S, (si M 1001 (0 : Int32)), O)) (rfl) ?_
    refine Ex_br (fun hc => ?_) (fun hc => ?_)
    · rw [if_pos hc] at hF
      exact Ex_mono (L := [some (.ref 1000), none, none, none, none]) (Le_s (Le_n (Le_n (Le_n (Le_n (Le_0)))))) (X_m_primes_35 hd _ _ _ hF) (Nat.le_refl _) (by omega)
    · rw [if_neg hc] at hF
      refine Ex_go 8 (pc' := 29) (L' := [some (.ref 1000), some (.int x1), some (.int x2), none, none]) (st' := [.long ((Int32.toInt64 x1) + (2000 : Int64)), .long (Int32.toInt64 x1), .long (Int32.toInt64 x2)]) (σ' := (S, (si M 1001 (0 : Int32)), O)) (rfl) ?_
      obtain ⟨r5, hx6, hF⟩ := b1_i hF
      refine Ex_call (kind := 0) (y := 91) (as := [.long (Int32.toInt64 x2), .long (Int32.toInt64 x1), .long ((Int32.toInt64 x1) + (2000 : Int64))]) (rest := []) (L0 := [some (.long (Int32.toInt64 x2)), none, some (.long (Int32.toInt64 x1)), none, some (.long ((Int32.toInt64 x1) + (2000 : Int64))), none]) (d' := 1) (v := some (.int r5)) (σ1 := (S, (si M 1001 (0 : Int32)), O)) rfl rfl mt_91 rfl rfl (by omega) (X_m_isIn (Nat.le_refl _) _ _ _ _ hx6) (Ex_st (st2 := [.int r5]) rfl ?_)
      refine Ex_go 1 (pc' := if ¬ r5 = 0 then 41 else 35) (L' := [some (.ref 1000), some (.int x1), some (.int x2), none, none]) (st' := []) (σ' := (S, (si M 1001 (0 : Int32)), O)) (rfl) ?_
      refine Ex_brN (fun hc => ?_) (fun hc => ?_)
      · rw [if_pos hc] at hF
        exact Ex_mono (L := [some (.ref 1000), none, none, none, none]) (Le_s (Le_n (Le_n (Le_n (Le_n (Le_0)))))) (X_m_primes_35 hd _ _ _ hF) (Nat.le_refl _) (by omega)
      · rw [if_neg hc] at hF
        refine Ex_go 4 (pc' := 46) (L' := [some (.ref 1000), some (.int x1), some (.int x2), some (.int (0 : Int32)), some (.int x1)]) (st' := []) (σ' := (S, (si M 1001 (0 : Int32)), O)) (rfl) ?_
        exact Ex_mono (L := [none, none, some (.int x2), some (.int (0 : Int32)), some (.int x1)]) (Le_n (Le_n (Le_s (Le_s (Le_s (Le_0)))))) (X_m_primes_46 hd FU _ _ _ _ _ _ hF) (Nat.le_refl _) (by omega)
def F_Pa_add (x1 : Int32) (x2 : Int32) (S : Sto) : Option (Unit × Sto) := if x2 ≤ 0 then some ((), S) else if (gi S 47) < 0 then some ((), S) else if (10 : Int32) ≤ (gi S 47) then some ((), S) else ck (ib (gi S 47) 10) (ck (ib (gi (ui S 51 (upd (ai S 51) (Int32.toNatClampNeg (gi S 47)) x1)) 47) 10) (some ((), (si (ui (ui S 51 (upd (ai S 51) (Int32.toNatClampNeg (gi S 47)) x1)) 52 (upd (ai (ui S 51 (upd (ai S 51) (Int32.toNatClampNeg (gi S 47)) x1)) 52) (Int32.toNatClampNeg (gi (ui S 51 (upd (ai S 51) (Int32.toNatClampNeg (gi S 47)) x1)) 47)) x2)) 47 ((gi (ui (ui S 51 (upd (ai S 51) (Int32.toNatClampNeg (gi S 47)) x1)) 52 (upd (ai (ui S 51 (upd (ai S 51) (Int32.toNatClampNeg (gi S 47)) x1)) 52) (Int32.toNatClampNeg (gi (ui S 51 (upd (ai S 51) (Int32.toNatClampNeg (gi S 47)) x1)) 47)) x2)) 47) + (1 : Int32))))))
set_option maxRecDepth 100000 in
theorem X_Pa_add {nL : Nat} {xs : Nat → Int32} {M : Sto} {O : Sto} {d : Nat} (hd : 1 ≤ d) : ∀ (x1 : Int32) (x2 : Int32) (S : Sto) (r : Unit) (S' : Sto), F_Pa_add x1 x2 S = some (r, S') → EX nL xs 0 MI_196 d 0 [some (.ref 50), some (.int x1), some (.int x2)] [] (S, M, O) (.inl none) (S', M, O) := by
  intro x1 x2 S r S' hF
  unfold F_Pa_add at hF
  refine Ex_go 2 (pc' := if x2 ≤ 0 then 50 else 4) (L' := [some (.ref 50), some (.int x1), some (.int x2)]) (st' := []) (σ' := (S, M, O)) (rfl) ?_
  refine Ex_br (fun hc => ?_) (fun hc => ?_)
  · rw [if_pos hc] at hF
    cases hF
    exact Ex_fin rfl
  · rw [if_neg hc] at hF
    refine Ex_go 3 (pc' := if (gi S 47) < 0 then 50 else 11) (L' := [some (.ref 50), some (.int x1), some (.int x2)]) (st' := []) (σ' := (S, M, O)) (rfl) ?_
    refine Ex_br (fun hc => ?_) (fun hc => ?_)
    · rw [if_pos hc] at hF
      cases hF
      exact Ex_fin rfl
    · rw [if_neg hc] at hF
      refine Ex_go 4 (pc' := if (10 : Int32) ≤ (gi S 47) then 50 else 20) (L' := [some (.ref 50), some (.int x1), some (.int x2)]) (st' := []) (σ' := (S, M, O)) (rfl) ?_
      refine Ex_br (fun hc => ?_) (fun hc => ?_)
      · rw [if_pos hc] at hF
        cases hF
        exact Ex_fin rfl
      · rw [if_neg hc] at hF
        refine Ex_go 5 (pc' := 29) (L' := [some (.ref 50), some (.int x1), some (.int x2)]) (st' := [.int x1, .int (gi S 47), .ref 51]) (σ' := (S, M, O)) (rfl) ?_
        obtain ⟨hc1, hF⟩ := ck_i hF
        refine Ex_chk (b := ib (gi S 47) 10) (pc' := 30) (L' := [some (.ref 50), some (.int x1), some (.int x2)]) (st' := []) (σ' := ((ui S 51 (upd (ai S 51) (Int32.toNatClampNeg (gi S 47)) x1)), M, O)) rfl hc1 ?_
        refine Ex_go 5 (pc' := 39) (L' := [some (.ref 50), some (.int x1), some (.int x2)]) (st' := [.int x2, .int (gi (ui S 51 (upd (ai S 51) (Int32.toNatClampNeg (gi S 47)) x1)) 47), .ref 52]) (σ' := ((ui S 51 (upd (ai S 51) (Int32.toNatClampNeg (gi S 47)) x1)), M, O)) (rfl) ?_
        obtain ⟨hc2, hF⟩ := ck_i hF
        refine Ex_chk (b := ib (gi (ui S 51 (upd (ai S 51) (Int32.toNatClampNeg (gi S 47)) x1)) 47) 10) (pc' := 40) (L' := [some (.ref 50), some (.int x1), some (.int x2)]) (st' := []) (σ' := ((ui (ui S 51 (upd (ai S 51) (Int32.toNatClampNeg (gi S 47)) x1)) 52 (upd (ai (ui S 51 (upd (ai S 51) (Int32.toNatClampNeg (gi S 47)) x1)) 52) (Int32.toNatClampNeg (gi (ui S 51 (upd (ai S 51) (Int32.toNatClampNeg (gi S 47)) x1)) 47)) x2)), M, O)) rfl hc2 ?_
        refine Ex_go 6 (pc' := 50) (L' := [some (.ref 50), some (.int x1), some (.int x2)]) (st' := []) (σ' := ((si (ui (ui S 51 (upd (ai S 51) (Int32.toNatClampNeg (gi S 47)) x1)) 52 (upd (ai (ui S 51 (upd (ai S 51) (Int32.toNatClampNeg (gi S 47)) x1)) 52) (Int32.toNatClampNeg (gi (ui S 51 (upd (ai S 51) (Int32.toNatClampNeg (gi S 47)) x1)) 47)) x2)) 47 ((gi (ui (ui S 51 (upd (ai S 51) (Int32.toNatClampNeg (gi S 47)) x1)) 52 (upd (ai (ui S 51 (upd (ai S 51) (Int32.toNatClampNeg (gi S 47)) x1)) 52) (Int32.toNatClampNeg (gi (ui S 51 (upd (ai S 51) (Int32.toNatClampNeg (gi S 47)) x1)) 47)) x2)) 47) + (1 : Int32))), M, O)) (rfl) ?_
        cases hF
        exact Ex_fin rfl
def F_Pa_take_67 (k9 : Int32 → Int32 → Sto → Option (Unit × Sto)) (x2 : Int32) (s0 : Int32) (s1 : Int32) (S : Sto) : Option (Unit × Sto) := k9 x2 (s0 + s1) S
set_option maxRecDepth 100000 in
theorem X_Pa_take_67 {nL : Nat} {xs : Nat → Int32} {M : Sto} {O : Sto} {d : Nat} (hd : 2 ≤ d) {k9 : Int32 → Int32 → Sto → Option (Unit × Sto)} (hk9 : ∀ (x2 : Int32) (x3 : Int32) (S : Sto) (r : Unit) (S' : Sto), k9 x2 x3 S = some (r, S') → EX nL xs 0 MI_197 d 9 [some (.ref 50), none, some (.int x2), some (.int x3), none] [] (S, M, O) (.inl none) (S', M, O)) : ∀ (x2 : Int32) (s0 : Int32) (s1 : Int32) (S : Sto) (r : Unit) (S' : Sto), F_Pa_take_67 k9 x2 s0 s1 S = some (r, S') → EX nL xs 0 MI_197 d 67 [some (.ref 50), none, some (.int x2), none, none] [.int s1, .int s0] (S, M, O) (.inl none) (S', M, O) := by
  intro x2 s0 s1 S r S' hF
  unfold F_Pa_take_67 at hF
  refine Ex_go 3 (pc' := 9) (L' := [some (.ref 50), none, some (.int x2), some (.int (s0 + s1)), none]) (st' := []) (σ' := (S, M, O)) (rfl) ?_
  exact Ex_mono (L := [some (.ref 50), none, some (.int x2), some (.int (s0 + s1)), none]) (Le_s (Le_n (Le_s (Le_s (Le_n (Le_0)))))) (hk9 _ _ _ _ _ hF) (Nat.le_refl _) (by omega)
def F_Pa_take_49 (k9 : Int32 → Int32 → Sto → Option (Unit × Sto)) (x2 : Int32) (x3 : Int32) (x4 : Int32) (S : Sto) : Option (Unit × Sto) := b2 (F_Pa_add x3 x4 S) (fun r1 S3 => if x3 = (2 : Int32) then F_Pa_take_67 k9 x2 x3 (1 : Int32) S3 else F_Pa_take_67 k9 x2 x3 (2 : Int32) S3)
set_option maxRecDepth 100000 in
theorem X_Pa_take_49 {nL : Nat} {xs : Nat → Int32} {M : Sto} {O : Sto} {d : Nat} (hd : 2 ≤ d) {k9 : Int32 → Int32 → Sto → Option (Unit × Sto)} (hk9 : ∀ (x2 : Int32) (x3 : Int32) (S : Sto) (r : Unit) (S' : Sto), k9 x2 x3 S = some (r, S') → EX nL xs 0 MI_197 d 9 [some (.ref 50), none, some (.int x2), some (.int x3), none] [] (S, M, O) (.inl none) (S', M, O)) : ∀ (x2 : Int32) (x3 : Int32) (x4 : Int32) (S : Sto) (r : Unit) (S' : Sto), F_Pa_take_49 k9 x2 x3 x4 S = some (r, S') → EX nL xs 0 MI_197 d 49 [some (.ref 50), none, some (.int x2), some (.int x3), some (.int x4)] [] (S, M, O) (.inl none) (S', M, O) := by
  intro x2 x3 x4 S r S' hF
  unfold F_Pa_take_49 at hF
  refine Ex_go 3 (pc' := 53) (L' := [some (.ref 50), none, some (.int x2), some (.int x3), some (.int x4)]) (st' := [.int x4, .int x3, .ref 50]) (σ' := (S, M, O)) (rfl) ?_
  obtain ⟨r1, S3, hx2, hF⟩ := b2_i hF
  refine Ex_call (kind := 2) (y := 196) (as := [.ref 50, .int x3, .int x4]) (rest := []) (L0 := [some (.ref 50), some (.int x3), some (.int x4)]) (d' := 1) (v := none) (σ1 := (S3, M, O)) rfl rfl mt_196 rfl rfl (by omega) (X_Pa_add (Nat.le_refl _) _ _ _ _ _ hx2) (Ex_st (st2 := []) rfl ?_)
  refine Ex_go 4 (pc' := if ¬ x3 = (2 : Int32) then 66 else 62) (L' := [some (.ref 50), none, some (.int x2), some (.int x3), some (.int x4)]) (st' := [.int x3]) (σ' := (S3, M, O)) (rfl) ?_
  refine Ex_brN (fun hc => ?_) (fun hc => ?_)
  · rw [if_pos hc] at hF
    refine Ex_go 2 (pc' := 67) (L' := [some (.ref 50), none, some (.int x2), some (.int x3), some (.int x4)]) (st' := [.int (1 : Int32), .int x3]) (σ' := (S3, M, O)) (rfl) ?_
    exact Ex_mono (L := [some (.ref 50), none, some (.int x2), none, none]) (Le_s (Le_n (Le_s (Le_n (Le_n (Le_0)))))) (X_Pa_take_67 hd hk9 _ _ _ _ _ _ hF) (Nat.le_refl _) (by omega)
  · rw [if_neg hc] at hF
    refine Ex_go 1 (pc' := 67) (L' := [some (.ref 50), none, some (.int x2), some (.int x3), some (.int x4)]) (st' := [.int (2 : Int32), .int x3]) (σ' := (S3, M, O)) (rfl) ?_
    exact Ex_mono (L := [some (.ref 50), none, some (.int x2), none, none]) (Le_s (Le_n (Le_s (Le_n (Le_n (Le_0)))))) (X_Pa_take_67 hd hk9 _ _ _ _ _ _ hF) (Nat.le_refl _) (by omega)
def F_Pa_take_26 (k9 : Int32 → Int32 → Sto → Option (Unit × Sto)) : Nat → Int32 → Int32 → Int32 → Sto → Option (Unit × Sto)
  | 0, _, _, _, _ => none
  | n + 1, x2, x3, x4, S => if (32 : Int32) ≤ x4 then F_Pa_take_49 k9 x2 x3 x4 S else ck (nzI x3) (if (x2 - x2 / x3 * x3) = 0 then ck (nzI x3) (F_Pa_take_26 k9 n (x2 / x3) x3 (x4 + (1 : Int32)) S) else F_Pa_take_49 k9 x2 x3 x4 S)
set_option maxRecDepth 100000 in
theorem X_Pa_take_26 {nL : Nat} {xs : Nat → Int32} {M : Sto} {O : Sto} {d : Nat} (hd : 2 ≤ d) {k9 : Int32 → Int32 → Sto → Option (Unit × Sto)} (hk9 : ∀ (x2 : Int32) (x3 : Int32) (S : Sto) (r : Unit) (S' : Sto), k9 x2 x3 S = some (r, S') → EX nL xs 0 MI_197 d 9 [some (.ref 50), none, some (.int x2), some (.int x3), none] [] (S, M, O) (.inl none) (S', M, O)) : ∀ n : Nat, ∀ (x2 : Int32) (x3 : Int32) (x4 : Int32) (S : Sto) (r : Unit) (S' : Sto), F_Pa_take_26 k9 n x2 x3 x4 S = some (r, S') → EX nL xs 0 MI_197 d 26 [some (.ref 50), none, some (.int x2), some (.int x3), some (.int x4)] [] (S, M, O) (.inl none) (S', M, O) := by
  intro n
  induction n with
  | zero => intro x2 x3 x4 S r S' hF; cases hF
  | succ n ih =>
  intro x2 x3 x4 S r S' hF
  unfold F_Pa_take_26 at hF
  refine Ex_go 3 (pc' := if (32 : Int32) ≤ x4 then 49 else 33) (L' := [some (.ref 50), none, some (.int x2), some (.int x3), some (.int x4)]) (st' := []) (σ' := (S, M, O)) (rfl) ?_
  refine Ex_br (fun hc => ?_) (fun hc => ?_)
  · rw [if_pos hc] at hF
    exact Ex_mono (L := [some (.ref 50), none, some (.int x2), some (.int x3), some (.int x4)]) (Le_s (Le_n (Le_s (Le_s (Le_s (Le_0)))))) (X_Pa_take_49 hd hk9 _ _ _ _ _ _ hF) (Nat.le_refl _) (by omega)
  · rw [if_neg hc] at hF
    refine Ex_go 2 (pc' := 35) (L' := [some (.ref 50), none, some (.int x2), some (.int x3), some (.int x4)]) (st' := [.int x3, .int x2]) (σ' := (S, M, O)) (rfl) ?_
    obtain ⟨hc1, hF⟩ := ck_i hF
    refine Ex_chk (b := nzI x3) (pc' := 36) (L' := [some (.ref 50), none, some (.int x2), some (.int x3), some (.int x4)]) (st' := [.int (x2 - x2 / x3 * x3)]) (σ' := (S, M, O)) rfl hc1 ?_
    refine Ex_go 1 (pc' := if ¬ (x2 - x2 / x3 * x3) = 0 then 49 else 39) (L' := [some (.ref 50), none, some (.int x2), some (.int x3), some (.int x4)]) (st' := []) (σ' := (S, M, O)) (rfl) ?_
    refine Ex_brN (fun hc => ?_) (fun hc => ?_)
    · rw [if_pos hc] at hF
      refine Ex_go 2 (pc' := 41) (L' := [some (.ref 50), none, some (.int x2), some (.int x3), some (.int x4)]) (st' := [.int x3, .int x2]) (σ' := (S, M, O)) (rfl) ?_
      obtain ⟨hc2, hF⟩ := ck_i hF
      refine Ex_chk (b := nzI x3) (pc' := 42) (L' := [some (.ref 50), none, some (.int x2), some (.int x3), some (.int x4)]) (st' := [.int (x2 / x3)]) (σ' := (S, M, O)) rfl hc2 ?_
      refine Ex_go 3 (pc' := 26) (L' := [some (.ref 50), none, some (.int (x2 / x3)), some (.int x3), some (.int (x4 + (1 : Int32)))]) (st' := []) (σ' := (S, M, O)) (rfl) ?_
      exact Ex_mono (L := [some (.ref 50), none, some (.int (x2 / x3)), some (.int x3), some (.int (x4 + (1 : Int32)))]) (Le_s (Le_n (Le_s (Le_s (Le_s (Le_0)))))) (ih _ _ _ _ _ _ hF) (Nat.le_refl _) (by omega)
    · rw [if_neg hc] at hF
      exact Ex_mono (L := [some (.ref 50), none, some (.int x2), some (.int x3), some (.int x4)]) (Le_s (Le_n (Le_s (Le_s (Le_s (Le_0)))))) (X_Pa_take_49 hd hk9 _ _ _ _ _ _ hF) (Nat.le_refl _) (by omega)
def F_Pa_take_84 (s1 : Int32) (s2 : Int32) (S : Sto) : Option (Unit × Sto) := b2 (F_Pa_add s1 s2 S) (fun r1 S3 => some ((), S3))
set_option maxRecDepth 100000 in
theorem X_Pa_take_84 {nL : Nat} {xs : Nat → Int32} {M : Sto} {O : Sto} {d : Nat} (hd : 2 ≤ d) : ∀ (s1 : Int32) (s2 : Int32) (S : Sto) (r : Unit) (S' : Sto), F_Pa_take_84 s1 s2 S = some (r, S') → EX nL xs 0 MI_197 d 84 [none, none, none, none, none] [.int s2, .int s1, .ref 50] (S, M, O) (.inl none) (S', M, O) := by
  intro s1 s2 S r S' hF
  unfold F_Pa_take_84 at hF
  obtain ⟨r1, S3, hx2, hF⟩ := b2_i hF
  refine Ex_call (kind := 2) (y := 196) (as := [.ref 50, .int s1, .int s2]) (rest := []) (L0 := [some (.ref 50), some (.int s1), some (.int s2)]) (d' := 1) (v := none) (σ1 := (S3, M, O)) rfl rfl mt_196 rfl rfl (by omega) (X_Pa_add (Nat.le_refl _) _ _ _ _ _ hx2) (Ex_st (st2 := []) rfl ?_)
  cases hF
  exact Ex_fin rfl
def F_Pa_take_72 (x2 : Int32) (S : Sto) : Option (Unit × Sto) := if x2 ≤ (1 : Int32) then F_Pa_take_84 x2 (0 : Int32) S else F_Pa_take_84 x2 (1 : Int32) S
set_option maxRecDepth 100000 in
theorem X_Pa_take_72 {nL : Nat} {xs : Nat → Int32} {M : Sto} {O : Sto} {d : Nat} (hd : 2 ≤ d) : ∀ (x2 : Int32) (S : Sto) (r : Unit) (S' : Sto), F_Pa_take_72 x2 S = some (r, S') → EX nL xs 0 MI_197 d 72 [some (.ref 50), none, some (.int x2), none, none] [] (S, M, O) (.inl none) (S', M, O) := by
  intro x2 S r S' hF
  unfold F_Pa_take_72 at hF
  refine Ex_go 5 (pc' := if x2 ≤ (1 : Int32) then 83 else 79) (L' := [some (.ref 50), none, some (.int x2), none, none]) (st' := [.int x2, .ref 50]) (σ' := (S, M, O)) (rfl) ?_
  refine Ex_br (fun hc => ?_) (fun hc => ?_)
  · rw [if_pos hc] at hF
    refine Ex_go 1 (pc' := 84) (L' := [some (.ref 50), none, some (.int x2), none, none]) (st' := [.int (0 : Int32), .int x2, .ref 50]) (σ' := (S, M, O)) (rfl) ?_
    exact Ex_mono (L := [none, none, none, none, none]) (Le_n (Le_n (Le_n (Le_n (Le_n (Le_0)))))) (X_Pa_take_84 hd _ _ _ _ _ hF) (Nat.le_refl _) (by omega)
  · rw [if_neg hc] at hF
    refine Ex_go 2 (pc' := 84) (L' := [some (.ref 50), none, some (.int x2), none, none]) (st' := [.int (1 : Int32), .int x2, .ref 50]) (σ' := (S, M, O)) (rfl) ?_
    exact Ex_mono (L := [none, none, none, none, none]) (Le_n (Le_n (Le_n (Le_n (Le_n (Le_0)))))) (X_Pa_take_84 hd _ _ _ _ _ hF) (Nat.le_refl _) (by omega)
def F_Pa_take_9 : Nat → Int32 → Int32 → Sto → Option (Unit × Sto)
  | 0, _, _, _ => none
  | n + 1, x2, x3, S => if (31623 : Int32) < x3 then F_Pa_take_72 x2 S else if x2 < (x3 * x3) then F_Pa_take_72 x2 S else F_Pa_take_26 (F_Pa_take_9 n) FU x2 x3 (0 : Int32) S
set_option maxRecDepth 100000 in
theorem X_Pa_take_9 {nL : Nat} {xs : Nat → Int32} {M : Sto} {O : Sto} {d : Nat} (hd : 2 ≤ d) : ∀ n : Nat, ∀ (x2 : Int32) (x3 : Int32) (S : Sto) (r : Unit) (S' : Sto), F_Pa_take_9 n x2 x3 S = some (r, S') → EX nL xs 0 MI_197 d 9 [some (.ref 50), none, some (.int x2), some (.int x3), none] [] (S, M, O) (.inl none) (S', M, O) := by
  intro n
  induction n with
  | zero => intro x2 x3 S r S' hF; cases hF
  | succ n ih =>
  intro x2 x3 S r S' hF
  unfold F_Pa_take_9 at hF
  refine Ex_go 3 (pc' := if (31623 : Int32) < x3 then 72 else 16) (L' := [some (.ref 50), none, some (.int x2), some (.int x3), none]) (st' := []) (σ' := (S, M, O)) (rfl) ?_
  refine Ex_br (fun hc => ?_) (fun hc => ?_)
  · rw [if_pos hc] at hF
    exact Ex_mono (L := [some (.ref 50), none, some (.int x2), none, none]) (Le_s (Le_n (Le_s (Le_n (Le_n (Le_0)))))) (X_Pa_take_72 hd _ _ _ _ hF) (Nat.le_refl _) (by omega)
  · rw [if_neg hc] at hF
    refine Ex_go 5 (pc' := if x2 < (x3 * x3) then 72 else 23) (L' := [some (.ref 50), none, some (.int x2), some (.int x3), none]) (st' := []) (σ' := (S, M, O)) (rfl) ?_
    refine Ex_br (fun hc => ?_) (fun hc => ?_)
    · rw [if_pos hc] at hF
      exact Ex_mono (L := [some (.ref 50), none, some (.int x2), none, none]) (Le_s (Le_n (Le_s (Le_n (Le_n (Le_0)))))) (X_Pa_take_72 hd _ _ _ _ hF) (Nat.le_refl _) (by omega)
    · rw [if_neg hc] at hF
      refine Ex_go 2 (pc' := 26) (L' := [some (.ref 50), none, some (.int x2), some (.int x3), some (.int (0 : Int32))]) (st' := []) (σ' := (S, M, O)) (rfl) ?_
      exact Ex_mono (L := [some (.ref 50), none, some (.int x2), some (.int x3), some (.int (0 : Int32))]) (Le_s (Le_n (Le_s (Le_s (Le_s (Le_0)))))) (X_Pa_take_26 hd ih FU _ _ _ _ _ _ hF) (Nat.le_refl _) (by omega)
def F_Pa_take (x1 : Int32) (S : Sto) : Option (Unit × Sto) := F_Pa_take_9 FU x1 (2 : Int32) (si S 47 (0 : Int32))
set_option maxRecDepth 100000 in
theorem X_Pa_take {nL : Nat} {xs : Nat → Int32} {M : Sto} {O : Sto} {d : Nat} (hd : 2 ≤ d) : ∀ (x1 : Int32) (S : Sto) (r : Unit) (S' : Sto), F_Pa_take x1 S = some (r, S') → EX nL xs 0 MI_197 d 0 [some (.ref 50), some (.int x1), none, none, none] [] (S, M, O) (.inl none) (S', M, O) := by
  intro x1 S r S' hF
  unfold F_Pa_take at hF
  refine Ex_go 7 (pc' := 9) (L' := [some (.ref 50), some (.int x1), some (.int x1), some (.int (2 : Int32)), none]) (st' := []) (σ' := ((si S 47 (0 : Int32)), M, O)) (rfl) ?_
  exact Ex_mono (L := [some (.ref 50), none, some (.int x1), some (.int (2 : Int32)), none]) (Le_s (Le_n (Le_s (Le_s (Le_n (Le_0)))))) (X_Pa_take_9 hd FU _ _ _ _ _ hF) (Nat.le_refl _) (by omega)
def F_Pa_has (x1 : Int32) (S : Sto) : Option Int32 := if x1 < 0 then some (0 : Int32) else if (gi S 47) ≤ x1 then some (0 : Int32) else if (10 : Int32) ≤ x1 then some (0 : Int32) else some (1 : Int32)
set_option maxRecDepth 100000 in
theorem X_Pa_has {nL : Nat} {xs : Nat → Int32} {M : Sto} {O : Sto} {d : Nat} (hd : 1 ≤ d) : ∀ (x1 : Int32) (S : Sto) (r : Int32), F_Pa_has x1 S = some r → EX nL xs 0 MI_198 d 0 [some (.ref 50), some (.int x1)] [] (S, M, O) (.inl (some (.int r))) (S, M, O) := by
  intro x1 S r hF
  unfold F_Pa_has at hF
  refine Ex_go 2 (pc' := if x1 < 0 then 22 else 4) (L' := [some (.ref 50), some (.int x1)]) (st' := []) (σ' := (S, M, O)) (rfl) ?_
  refine Ex_br (fun hc => ?_) (fun hc => ?_)
  · rw [if_pos hc] at hF
    refine Ex_go 1 (pc' := 23) (L' := [some (.ref 50), some (.int x1)]) (st' := [.int (0 : Int32)]) (σ' := (S, M, O)) (rfl) ?_
    cases hF
    exact Ex_fin rfl
  · rw [if_neg hc] at hF
    refine Ex_go 4 (pc' := if (gi S 47) ≤ x1 then 22 else 12) (L' := [some (.ref 50), some (.int x1)]) (st' := []) (σ' := (S, M, O)) (rfl) ?_
    refine Ex_br (fun hc => ?_) (fun hc => ?_)
    · rw [if_pos hc] at hF
      refine Ex_go 1 (pc' := 23) (L' := [some (.ref 50), some (.int x1)]) (st' := [.int (0 : Int32)]) (σ' := (S, M, O)) (rfl) ?_
      cases hF
      exact Ex_fin rfl
    · rw [if_neg hc] at hF
      refine Ex_go 3 (pc' := if (10 : Int32) ≤ x1 then 22 else 18) (L' := [some (.ref 50), some (.int x1)]) (st' := []) (σ' := (S, M, O)) (rfl) ?_
      refine Ex_br (fun hc => ?_) (fun hc => ?_)
      · rw [if_pos hc] at hF
        refine Ex_go 1 (pc' := 23) (L' := [some (.ref 50), some (.int x1)]) (st' := [.int (0 : Int32)]) (σ' := (S, M, O)) (rfl) ?_
        cases hF
        exact Ex_fin rfl
      · rw [if_neg hc] at hF
        refine Ex_go 2 (pc' := 23) (L' := [some (.ref 50), some (.int x1)]) (st' := [.int (1 : Int32)]) (σ' := (S, M, O)) (rfl) ?_
        cases hF
        exact Ex_fin rfl
def F_Pa_times (x1 : Int32) (S : Sto) : Option Int32 := b1 (F_Pa_has x1 S) (fun r1 => if r1 = 0 then some (-1 : Int32) else ck (ib x1 10) (some (ai S 52 (Int32.toNatClampNeg x1))))
set_option maxRecDepth 100000 in
theorem X_Pa_times {nL : Nat} {xs : Nat → Int32} {M : Sto} {O : Sto} {d : Nat} (hd : 2 ≤ d) : ∀ (x1 : Int32) (S : Sto) (r : Int32), F_Pa_times x1 S = some r → EX nL xs 0 MI_199 d 0 [some (.ref 50), some (.int x1)] [] (S, M, O) (.inl (some (.int r))) (S, M, O) := by
  intro x1 S r hF
  unfold F_Pa_times at hF
  refine Ex_go 2 (pc' := 2) (L' := [some (.ref 50), some (.int x1)]) (st' := [.int x1, .ref 50]) (σ' := (S, M, O)) (rfl) ?_
  obtain ⟨r1, hx2, hF⟩ := b1_i hF
  refine Ex_call (kind := 2) (y := 198) (as := [.ref 50, .int x1]) (rest := []) (L0 := [some (.ref 50), some (.int x1)]) (d' := 1) (v := some (.int r1)) (σ1 := (S, M, O)) rfl rfl mt_198 rfl rfl (by omega) (X_Pa_has (Nat.le_refl _) _ _ _ hx2) (Ex_st (st2 := [.int r1]) rfl ?_)
  refine Ex_go 1 (pc' := if r1 = 0 then 17 else 8) (L' := [some (.ref 50), some (.int x1)]) (st' := []) (σ' := (S, M, O)) (rfl) ?_
  refine Ex_br (fun hc => ?_) (fun hc => ?_)
  · rw [if_pos hc] at hF
    refine Ex_go 1 (pc' := 18) (L' := [some (.ref 50), some (.int x1)]) (st' := [.int (-1 : Int32)]) (σ' := (S, M, O)) (rfl) ?_
    cases hF
    exact Ex_fin rfl
  · rw [if_neg hc] at hF
    refine Ex_go 3 (pc' := 13) (L' := [some (.ref 50), some (.int x1)]) (st' := [.int x1, .ref 52]) (σ' := (S, M, O)) (rfl) ?_
    obtain ⟨hc3, hF⟩ := ck_i hF
    refine Ex_chk (b := ib x1 10) (pc' := 14) (L' := [some (.ref 50), some (.int x1)]) (st' := [.int (ai S 52 (Int32.toNatClampNeg x1))]) (σ' := (S, M, O)) rfl hc3 ?_
    refine Ex_go 1 (pc' := 18) (L' := [some (.ref 50), some (.int x1)]) (st' := [.int (ai S 52 (Int32.toNatClampNeg x1))]) (σ' := (S, M, O)) (rfl) ?_
    cases hF
    exact Ex_fin rfl
def F_Pa_factor (x1 : Int32) (S : Sto) : Option Int32 := b1 (F_Pa_has x1 S) (fun r1 => if r1 = 0 then some (-1 : Int32) else ck (ib x1 10) (some (ai S 51 (Int32.toNatClampNeg x1))))
set_option maxRecDepth 100000 in
theorem X_Pa_factor {nL : Nat} {xs : Nat → Int32} {M : Sto} {O : Sto} {d : Nat} (hd : 2 ≤ d) : ∀ (x1 : Int32) (S : Sto) (r : Int32), F_Pa_factor x1 S = some r → EX nL xs 0 MI_200 d 0 [some (.ref 50), some (.int x1)] [] (S, M, O) (.inl (some (.int r))) (S, M, O) := by
  intro x1 S r hF
  unfold F_Pa_factor at hF
  refine Ex_go 2 (pc' := 2) (L' := [some (.ref 50), some (.int x1)]) (st' := [.int x1, .ref 50]) (σ' := (S, M, O)) (rfl) ?_
  obtain ⟨r1, hx2, hF⟩ := b1_i hF
  refine Ex_call (kind := 2) (y := 198) (as := [.ref 50, .int x1]) (rest := []) (L0 := [some (.ref 50), some (.int x1)]) (d' := 1) (v := some (.int r1)) (σ1 := (S, M, O)) rfl rfl mt_198 rfl rfl (by omega) (X_Pa_has (Nat.le_refl _) _ _ _ hx2) (Ex_st (st2 := [.int r1]) rfl ?_)
  refine Ex_go 1 (pc' := if r1 = 0 then 17 else 8) (L' := [some (.ref 50), some (.int x1)]) (st' := []) (σ' := (S, M, O)) (rfl) ?_
  refine Ex_br (fun hc => ?_) (fun hc => ?_)
  · rw [if_pos hc] at hF
    refine Ex_go 1 (pc' := 18) (L' := [some (.ref 50), some (.int x1)]) (st' := [.int (-1 : Int32)]) (σ' := (S, M, O)) (rfl) ?_
    cases hF
    exact Ex_fin rfl
  · rw [if_neg hc] at hF
    refine Ex_go 3 (pc' := 13) (L' := [some (.ref 50), some (.int x1)]) (st' := [.int x1, .ref 51]) (σ' := (S, M, O)) (rfl) ?_
    obtain ⟨hc3, hF⟩ := ck_i hF
    refine Ex_chk (b := ib x1 10) (pc' := 14) (L' := [some (.ref 50), some (.int x1)]) (st' := [.int (ai S 51 (Int32.toNatClampNeg x1))]) (σ' := (S, M, O)) rfl hc3 ?_
    refine Ex_go 1 (pc' := 18) (L' := [some (.ref 50), some (.int x1)]) (st' := [.int (ai S 51 (Int32.toNatClampNeg x1))]) (σ' := (S, M, O)) (rfl) ?_
    cases hF
    exact Ex_fin rfl
def F_Pa_addedUp_18 (k4 : Int64 → Int32 → Sto → Option Int64) : Nat → Int64 → Int32 → Int64 → Int32 → Sto → Option Int64
  | 0, _, _, _, _, _ => none
  | n + 1, x1, x3, x4, x6, S => b1 (F_Pa_times x3 S) (fun r1 => if r1 ≤ x6 then k4 (x1 * x4) (x3 + (1 : Int32)) S else b1 (F_Pa_factor x3 S) (fun r3 => F_Pa_addedUp_18 k4 n x1 x3 ((x4 * (Int32.toInt64 r3)) + (1 : Int64)) (x6 + (1 : Int32)) S))
set_option maxRecDepth 100000 in
theorem X_Pa_addedUp_18 {nL : Nat} {xs : Nat → Int32} {M : Sto} {O : Sto} {d : Nat} (hd : 3 ≤ d) {k4 : Int64 → Int32 → Sto → Option Int64} (hk4 : ∀ (x1 : Int64) (x3 : Int32) (S : Sto) (r : Int64), k4 x1 x3 S = some r → EX nL xs 0 MI_206 d 4 [some (.ref 50), some (.long x1), none, some (.int x3), none, none, none] [] (S, M, O) (.inl (some (.long r))) (S, M, O)) : ∀ n : Nat, ∀ (x1 : Int64) (x3 : Int32) (x4 : Int64) (x6 : Int32) (S : Sto) (r : Int64), F_Pa_addedUp_18 k4 n x1 x3 x4 x6 S = some r → EX nL xs 0 MI_206 d 18 [some (.ref 50), some (.long x1), none, some (.int x3), some (.long x4), none, some (.int x6)] [] (S, M, O) (.inl (some (.long r))) (S, M, O) := by
  intro n
  induction n with
  | zero => intro x1 x3 x4 x6 S r hF; cases hF
  | succ n ih =>
  intro x1 x3 x4 x6 S r hF
  unfold F_Pa_addedUp_18 at hF
  refine Ex_go 3 (pc' := 22) (L' := [some (.ref 50), some (.long x1), none, some (.int x3), some (.long x4), none, some (.int x6)]) (st' := [.int x3, .ref 50, .int x6]) (σ' := (S, M, O)) (rfl) ?_
  obtain ⟨r1, hx2, hF⟩ := b1_i hF
  refine Ex_call (kind := 2) (y := 199) (as := [.ref 50, .int x3]) (rest := [.int x6]) (L0 := [some (.ref 50), some (.int x3)]) (d' := 2) (v := some (.int r1)) (σ1 := (S, M, O)) rfl rfl mt_199 rfl rfl (by omega) (X_Pa_times (Nat.le_refl _) _ _ _ hx2) (Ex_st (st2 := [.int r1, .int x6]) rfl ?_)
  refine Ex_go 1 (pc' := if r1 ≤ x6 then 47 else 28) (L' := [some (.ref 50), some (.long x1), none, some (.int x3), some (.long x4), none, some (.int x6)]) (st' := []) (σ' := (S, M, O)) (rfl) ?_
  refine Ex_br (fun hc => ?_) (fun hc => ?_)
  · rw [if_pos hc] at hF
    refine Ex_go 6 (pc' := 4) (L' := [some (.ref 50), some (.long (x1 * x4)), none, some (.int (x3 + (1 : Int32))), some (.long x4), none, some (.int x6)]) (st' := []) (σ' := (S, M, O)) (rfl) ?_
    exact Ex_mono (L := [some (.ref 50), some (.long (x1 * x4)), none, some (.int (x3 + (1 : Int32))), none, none, none]) (Le_s (Le_s (Le_n (Le_s (Le_n (Le_n (Le_n (Le_0)))))))) (hk4 _ _ _ _ hF) (Nat.le_refl _) (by omega)
  · rw [if_neg hc] at hF
    refine Ex_go 3 (pc' := 32) (L' := [some (.ref 50), some (.long x1), none, some (.int x3), some (.long x4), none, some (.int x6)]) (st' := [.int x3, .ref 50, .long x4]) (σ' := (S, M, O)) (rfl) ?_
    obtain ⟨r3, hx4, hF⟩ := b1_i hF
    refine Ex_call (kind := 2) (y := 200) (as := [.ref 50, .int x3]) (rest := [.long x4]) (L0 := [some (.ref 50), some (.int x3)]) (d' := 2) (v := some (.int r3)) (σ1 := (S, M, O)) rfl rfl mt_200 rfl rfl (by omega) (X_Pa_factor (Nat.le_refl _) _ _ _ hx4) (Ex_st (st2 := [.int r3, .long x4]) rfl ?_)
    refine Ex_go 7 (pc' := 18) (L' := [some (.ref 50), some (.long x1), none, some (.int x3), some (.long ((x4 * (Int32.toInt64 r3)) + (1 : Int64))), none, some (.int (x6 + (1 : Int32)))]) (st' := []) (σ' := (S, M, O)) (rfl) ?_
    exact Ex_mono (L := [some (.ref 50), some (.long x1), none, some (.int x3), some (.long ((x4 * (Int32.toInt64 r3)) + (1 : Int64))), none, some (.int (x6 + (1 : Int32)))]) (Le_s (Le_s (Le_n (Le_s (Le_s (Le_n (Le_s (Le_0)))))))) (ih _ _ _ _ _ _ hF) (Nat.le_refl _) (by omega)
def F_Pa_addedUp_4 : Nat → Int64 → Int32 → Sto → Option Int64
  | 0, _, _, _ => none
  | n + 1, x1, x3, S => if (gi S 47) ≤ x3 then some x1 else F_Pa_addedUp_18 (F_Pa_addedUp_4 n) FU x1 x3 (1 : Int64) (0 : Int32) S
set_option maxRecDepth 100000 in
theorem X_Pa_addedUp_4 {nL : Nat} {xs : Nat → Int32} {M : Sto} {O : Sto} {d : Nat} (hd : 3 ≤ d) : ∀ n : Nat, ∀ (x1 : Int64) (x3 : Int32) (S : Sto) (r : Int64), F_Pa_addedUp_4 n x1 x3 S = some r → EX nL xs 0 MI_206 d 4 [some (.ref 50), some (.long x1), none, some (.int x3), none, none, none] [] (S, M, O) (.inl (some (.long r))) (S, M, O) := by
  intro n
  induction n with
  | zero => intro x1 x3 S r hF; cases hF
  | succ n ih =>
  intro x1 x3 S r hF
  unfold F_Pa_addedUp_4 at hF
  refine Ex_go 4 (pc' := if (gi S 47) ≤ x3 then 58 else 12) (L' := [some (.ref 50), some (.long x1), none, some (.int x3), none, none, none]) (st' := []) (σ' := (S, M, O)) (rfl) ?_
  refine Ex_br (fun hc => ?_) (fun hc => ?_)
  · rw [if_pos hc] at hF
    refine Ex_go 1 (pc' := 59) (L' := [some (.ref 50), some (.long x1), none, some (.int x3), none, none, none]) (st' := [.long x1]) (σ' := (S, M, O)) (rfl) ?_
    cases hF
    exact Ex_fin rfl
  · rw [if_neg hc] at hF
    refine Ex_go 4 (pc' := 18) (L' := [some (.ref 50), some (.long x1), none, some (.int x3), some (.long (1 : Int64)), none, some (.int (0 : Int32))]) (st' := []) (σ' := (S, M, O)) (rfl) ?_
    exact Ex_mono (L := [some (.ref 50), some (.long x1), none, some (.int x3), some (.long (1 : Int64)), none, some (.int (0 : Int32))]) (Le_s (Le_s (Le_n (Le_s (Le_s (Le_n (Le_s (Le_0)))))))) (X_Pa_addedUp_18 hd ih FU _ _ _ _ _ _ hF) (Nat.le_refl _) (by omega)
def F_Pa_addedUp (S : Sto) : Option Int64 := F_Pa_addedUp_4 FU (1 : Int64) (0 : Int32) S
set_option maxRecDepth 100000 in
theorem X_Pa_addedUp {nL : Nat} {xs : Nat → Int32} {M : Sto} {O : Sto} {d : Nat} (hd : 3 ≤ d) : ∀ (S : Sto) (r : Int64), F_Pa_addedUp S = some r → EX nL xs 0 MI_206 d 0 [some (.ref 50), none, none, none, none, none, none] [] (S, M, O) (.inl (some (.long r))) (S, M, O) := by
  intro S r hF
  unfold F_Pa_addedUp at hF
  refine Ex_go 4 (pc' := 4) (L' := [some (.ref 50), some (.long (1 : Int64)), none, some (.int (0 : Int32)), none, none, none]) (st' := []) (σ' := (S, M, O)) (rfl) ?_
  exact Ex_mono (L := [some (.ref 50), some (.long (1 : Int64)), none, some (.int (0 : Int32)), none, none, none]) (Le_s (Le_s (Le_n (Le_s (Le_n (Le_n (Le_n (Le_0)))))))) (X_Pa_addedUp_4 hd FU _ _ _ _ hF) (Nat.le_refl _) (by omega)
def F_Pa_halvings (S : Sto) : Option Int32 := b1 (F_Pa_factor (0 : Int32) S) (fun r1 => if r1 = (2 : Int32) then b1 (F_Pa_times (0 : Int32) S) (fun r3 => some r3) else some (0 : Int32))
set_option maxRecDepth 100000 in
theorem X_Pa_halvings {nL : Nat} {xs : Nat → Int32} {M : Sto} {O : Sto} {d : Nat} (hd : 3 ≤ d) : ∀ (S : Sto) (r : Int32), F_Pa_halvings S = some r → EX nL xs 0 MI_208 d 0 [some (.ref 50)] [] (S, M, O) (.inl (some (.int r))) (S, M, O) := by
  intro S r hF
  unfold F_Pa_halvings at hF
  refine Ex_go 2 (pc' := 2) (L' := [some (.ref 50)]) (st' := [.int (0 : Int32), .ref 50]) (σ' := (S, M, O)) (rfl) ?_
  obtain ⟨r1, hx2, hF⟩ := b1_i hF
  refine Ex_call (kind := 2) (y := 200) (as := [.ref 50, .int (0 : Int32)]) (rest := []) (L0 := [some (.ref 50), some (.int (0 : Int32))]) (d' := 2) (v := some (.int r1)) (σ1 := (S, M, O)) rfl rfl mt_200 rfl rfl (by omega) (X_Pa_factor (Nat.le_refl _) _ _ _ hx2) (Ex_st (st2 := [.int r1]) rfl ?_)
  refine Ex_go 2 (pc' := if ¬ r1 = (2 : Int32) then 17 else 9) (L' := [some (.ref 50)]) (st' := []) (σ' := (S, M, O)) (rfl) ?_
  refine Ex_brN (fun hc => ?_) (fun hc => ?_)
  · rw [if_pos hc] at hF
    refine Ex_go 2 (pc' := 11) (L' := [some (.ref 50)]) (st' := [.int (0 : Int32), .ref 50]) (σ' := (S, M, O)) (rfl) ?_
    obtain ⟨r3, hx4, hF⟩ := b1_i hF
    refine Ex_call (kind := 2) (y := 199) (as := [.ref 50, .int (0 : Int32)]) (rest := []) (L0 := [some (.ref 50), some (.int (0 : Int32))]) (d' := 2) (v := some (.int r3)) (σ1 := (S, M, O)) rfl rfl mt_199 rfl rfl (by omega) (X_Pa_times (Nat.le_refl _) _ _ _ hx4) (Ex_st (st2 := [.int r3]) rfl ?_)
    refine Ex_go 1 (pc' := 18) (L' := [some (.ref 50)]) (st' := [.int r3]) (σ' := (S, M, O)) (rfl) ?_
    cases hF
    exact Ex_fin rfl
  · rw [if_neg hc] at hF
    refine Ex_go 1 (pc' := 18) (L' := [some (.ref 50)]) (st' := [.int (0 : Int32)]) (σ' := (S, M, O)) (rfl) ?_
    cases hF
    exact Ex_fin rfl
def F_Pa_dividers_4 : Nat → Int64 → Int32 → Sto → Option Int64
  | 0, _, _, _ => none
  | n + 1, x1, x3, S => if (gi S 47) ≤ x3 then some x1 else b1 (F_Pa_times x3 S) (fun r1 => F_Pa_dividers_4 n (x1 * (Int32.toInt64 (r1 + (1 : Int32)))) (x3 + (1 : Int32)) S)
set_option maxRecDepth 100000 in
theorem X_Pa_dividers_4 {nL : Nat} {xs : Nat → Int32} {M : Sto} {O : Sto} {d : Nat} (hd : 3 ≤ d) : ∀ n : Nat, ∀ (x1 : Int64) (x3 : Int32) (S : Sto) (r : Int64), F_Pa_dividers_4 n x1 x3 S = some r → EX nL xs 0 MI_207 d 4 [some (.ref 50), some (.long x1), none, some (.int x3)] [] (S, M, O) (.inl (some (.long r))) (S, M, O) := by
  intro n
  induction n with
  | zero => intro x1 x3 S r hF; cases hF
  | succ n ih =>
  intro x1 x3 S r hF
  unfold F_Pa_dividers_4 at hF
  refine Ex_go 4 (pc' := if (gi S 47) ≤ x3 then 29 else 12) (L' := [some (.ref 50), some (.long x1), none, some (.int x3)]) (st' := []) (σ' := (S, M, O)) (rfl) ?_
  refine Ex_br (fun hc => ?_) (fun hc => ?_)
  · rw [if_pos hc] at hF
    refine Ex_go 1 (pc' := 30) (L' := [some (.ref 50), some (.long x1), none, some (.int x3)]) (st' := [.long x1]) (σ' := (S, M, O)) (rfl) ?_
    cases hF
    exact Ex_fin rfl
  · rw [if_neg hc] at hF
    refine Ex_go 3 (pc' := 15) (L' := [some (.ref 50), some (.long x1), none, some (.int x3)]) (st' := [.int x3, .ref 50, .long x1]) (σ' := (S, M, O)) (rfl) ?_
    obtain ⟨r1, hx2, hF⟩ := b1_i hF
    refine Ex_call (kind := 2) (y := 199) (as := [.ref 50, .int x3]) (rest := [.long x1]) (L0 := [some (.ref 50), some (.int x3)]) (d' := 2) (v := some (.int r1)) (σ1 := (S, M, O)) rfl rfl mt_199 rfl rfl (by omega) (X_Pa_times (Nat.le_refl _) _ _ _ hx2) (Ex_st (st2 := [.int r1, .long x1]) rfl ?_)
    refine Ex_go 7 (pc' := 4) (L' := [some (.ref 50), some (.long (x1 * (Int32.toInt64 (r1 + (1 : Int32))))), none, some (.int (x3 + (1 : Int32)))]) (st' := []) (σ' := (S, M, O)) (rfl) ?_
    exact Ex_mono (L := [some (.ref 50), some (.long (x1 * (Int32.toInt64 (r1 + (1 : Int32))))), none, some (.int (x3 + (1 : Int32)))]) (Le_s (Le_s (Le_n (Le_s (Le_0))))) (ih _ _ _ _ hF) (Nat.le_refl _) (by omega)
def F_Pa_dividers (S : Sto) : Option Int64 := F_Pa_dividers_4 FU (1 : Int64) (0 : Int32) S
set_option maxRecDepth 100000 in
theorem X_Pa_dividers {nL : Nat} {xs : Nat → Int32} {M : Sto} {O : Sto} {d : Nat} (hd : 3 ≤ d) : ∀ (S : Sto) (r : Int64), F_Pa_dividers S = some r → EX nL xs 0 MI_207 d 0 [some (.ref 50), none, none, none] [] (S, M, O) (.inl (some (.long r))) (S, M, O) := by
  intro S r hF
  unfold F_Pa_dividers at hF
  refine Ex_go 4 (pc' := 4) (L' := [some (.ref 50), some (.long (1 : Int64)), none, some (.int (0 : Int32))]) (st' := []) (σ' := (S, M, O)) (rfl) ?_
  exact Ex_mono (L := [some (.ref 50), some (.long (1 : Int64)), none, some (.int (0 : Int32))]) (Le_s (Le_s (Le_n (Le_s (Le_0))))) (X_Pa_dividers_4 hd FU _ _ _ _ hF) (Nat.le_refl _) (by omega)
def F_w_divided (x1 : Int32) (x2 : Int32) (S : Sto) : Option ((Int64 ⊕ Nat) × Sto) := b1 (F_w_isDivided x1) (fun r1 => if r1 = 0 then some ((.inr 0), S) else b2 (F_Pa_take x1 S) (fun r3 S5 => b1 (F_Pa_addedUp S5) (fun r6 => if x2 = 0 then b1 (F_Pa_dividers S5) (fun r8 => some ((.inl r8), S5)) else (if x2 = 1 then some ((.inl (r6 - (Int32.toInt64 x1))), S5) else (if x2 = 2 then if (Int32.toInt64 x1) ≤ (r6 - (Int32.toInt64 x1)) then if (r6 - (Int32.toInt64 x1)) = (Int32.toInt64 x1) then some ((.inl (1 : Int64)), S5) else some ((.inl (2 : Int64)), S5) else some ((.inl (0 : Int64)), S5) else (if x2 = 3 then b1 (F_Pa_halvings S5) (fun r10 => some ((.inl (Int32.toInt64 r10)), S5)) else (if x2 = 4 then b1 (F_Pa_halvings S5) (fun r12 => some ((.inl (Int32.toInt64 (x1 >>> (r12 &&& 31)))), S5)) else (some ((.inr 1), S5)))))))))
set_option maxRecDepth 100000 in
theorem X_w_divided {nL : Nat} {xs : Nat → Int32} {M : Sto} {O : Sto} {d : Nat} (hd : 8 ≤ d) : ∀ (x1 : Int32) (x2 : Int32) (S : Sto) (r : Int64 ⊕ Nat) (S' : Sto), F_w_divided x1 x2 S = some (r, S') → EX nL xs 1 MI_209 d 0 [some (.ref 0), some (.int x1), some (.int x2), none, none] [] (S, M, O) (rsJ r) (S', M, O) := by
  intro x1 x2 S r S' hF
  unfold F_w_divided at hF
  refine Ex_go 1 (pc' := 1) (L' := [some (.ref 0), some (.int x1), some (.int x2), none, none]) (st' := [.int x1]) (σ' := (S, M, O)) (rfl) ?_
  obtain ⟨r1, hx2, hF⟩ := b1_i hF
  refine Ex_callK (K1 := 0) (K2 := 1) (kind := 0) (y := 195) (as := [.int x1]) (rest := []) (L0 := [some (.int x1)]) (d' := 1) (v := some (.int r1)) (σ1 := (S, M, O)) rfl rfl mt_195 rfl rfl (by omega) (X_w_isDivided (Nat.le_refl _) _ _ hx2) (Ex_st (st2 := [.int r1]) rfl ?_) (by omega)
  refine Ex_go 1 (pc' := if ¬ r1 = 0 then 15 else 7) (L' := [some (.ref 0), some (.int x1), some (.int x2), none, none]) (st' := []) (σ' := (S, M, O)) (rfl) ?_
  refine Ex_brN (fun hc => ?_) (fun hc => ?_)
  · rw [if_pos hc] at hF
    cases hF
    exact Ex_thr rfl (by omega) (Nat.le_refl _)
  · rw [if_neg hc] at hF
    refine Ex_go 3 (pc' := 20) (L' := [some (.ref 0), some (.int x1), some (.int x2), none, none]) (st' := [.int x1, .ref 50]) (σ' := (S, M, O)) (rfl) ?_
    obtain ⟨r3, S5, hx4, hF⟩ := b2_i hF
    refine Ex_callK (K1 := 0) (K2 := 1) (kind := 2) (y := 197) (as := [.ref 50, .int x1]) (rest := []) (L0 := [some (.ref 50), some (.int x1), none, none, none]) (d' := 2) (v := none) (σ1 := (S5, M, O)) rfl rfl mt_197 rfl rfl (by omega) (X_Pa_take (Nat.le_refl _) _ _ _ _ hx4) (Ex_st (st2 := []) rfl ?_) (by omega)
    refine Ex_go 2 (pc' := 27) (L' := [some (.ref 0), some (.int x1), some (.int x2), none, none]) (st' := [.ref 50]) (σ' := (S5, M, O)) (rfl) ?_
    obtain ⟨r6, hx7, hF⟩ := b1_i hF
    refine Ex_callK (K1 := 0) (K2 := 1) (kind := 2) (y := 206) (as := [.ref 50]) (rest := []) (L0 := [some (.ref 50), none, none, none, none, none, none]) (d' := 3) (v := some (.long r6)) (σ1 := (S5, M, O)) rfl rfl mt_206 rfl rfl (by omega) (X_Pa_addedUp (Nat.le_refl _) _ _ hx7) (Ex_st (st2 := [.long r6]) rfl ?_) (by omega)
    refine Ex_go 6 (pc' := swp x2 [(0, 68), (1, 76), (2, 78), (3, 104), (4, 113)] 124) (L' := [some (.ref 0), some (.int x1), some (.int x2), some (.long (r6 - (Int32.toInt64 x1))), none]) (st' := []) (σ' := (S5, M, O)) (rfl) ?_
    refine Ex_br (c := x2 = 0) (fun hc => ?_) (fun hc => ?_)
    · rw [if_pos hc] at hF
      refine Ex_go 2 (pc' := 72) (L' := [some (.ref 0), some (.int x1), some (.int x2), some (.long (r6 - (Int32.toInt64 x1))), none]) (st' := [.ref 50]) (σ' := (S5, M, O)) (rfl) ?_
      obtain ⟨r8, hx9, hF⟩ := b1_i hF
      refine Ex_callK (K1 := 0) (K2 := 1) (kind := 2) (y := 207) (as := [.ref 50]) (rest := []) (L0 := [some (.ref 50), none, none, none]) (d' := 3) (v := some (.long r8)) (σ1 := (S5, M, O)) rfl rfl mt_207 rfl rfl (by omega) (X_Pa_dividers (Nat.le_refl _) _ _ hx9) (Ex_st (st2 := [.long r8]) rfl ?_) (by omega)
      cases hF
      exact Ex_fin rfl
    rw [if_neg hc] at hF
    refine Ex_br (c := x2 = 1) (fun hc => ?_) (fun hc => ?_)
    · rw [if_pos hc] at hF
      refine Ex_go 1 (pc' := 77) (L' := [some (.ref 0), some (.int x1), some (.int x2), some (.long (r6 - (Int32.toInt64 x1))), none]) (st' := [.long (r6 - (Int32.toInt64 x1))]) (σ' := (S5, M, O)) (rfl) ?_
      cases hF
      exact Ex_fin rfl
    rw [if_neg hc] at hF
    refine Ex_br (c := x2 = 2) (fun hc => ?_) (fun hc => ?_)
    · rw [if_pos hc] at hF
      refine Ex_go 5 (pc' := if 0 ≤ (lg_cmp (r6 - (Int32.toInt64 x1)) (Int32.toInt64 x1)) then 89 else 85) (L' := [some (.ref 0), some (.int x1), some (.int x2), some (.long (r6 - (Int32.toInt64 x1))), none]) (st' := []) (σ' := (S5, M, O)) (rfl) ?_
      refine Ex_brI lc_ge (fun hc => ?_) (fun hc => ?_)
      · rw [if_pos hc] at hF
        refine Ex_go 5 (pc' := if ¬ (lg_cmp (r6 - (Int32.toInt64 x1)) (Int32.toInt64 x1)) = 0 then 100 else 96) (L' := [some (.ref 0), some (.int x1), some (.int x2), some (.long (r6 - (Int32.toInt64 x1))), none]) (st' := []) (σ' := (S5, M, O)) (rfl) ?_
        refine Ex_brNI lc_ne (fun hc => ?_) (fun hc => ?_)
        · rw [if_pos hc] at hF
          refine Ex_go 2 (pc' := 103) (L' := [some (.ref 0), some (.int x1), some (.int x2), some (.long (r6 - (Int32.toInt64 x1))), none]) (st' := [.long (1 : Int64)]) (σ' := (S5, M, O)) (rfl) ?_
          cases hF
          exact Ex_fin rfl
        · rw [if_neg hc] at hF
          refine Ex_go 1 (pc' := 103) (L' := [some (.ref 0), some (.int x1), some (.int x2), some (.long (r6 - (Int32.toInt64 x1))), none]) (st' := [.long (2 : Int64)]) (σ' := (S5, M, O)) (rfl) ?_
          cases hF
          exact Ex_fin rfl
      · rw [if_neg hc] at hF
        refine Ex_go 2 (pc' := 103) (L' := [some (.ref 0), some (.int x1), some (.int x2), some (.long (r6 - (Int32.toInt64 x1))), none]) (st' := [.long (0 : Int64)]) (σ' := (S5, M, O)) (rfl) ?_
        cases hF
        exact Ex_fin rfl
    rw [if_neg hc] at hF
    refine Ex_br (c := x2 = 3) (fun hc => ?_) (fun hc => ?_)
    · rw [if_pos hc] at hF
      refine Ex_go 2 (pc' := 108) (L' := [some (.ref 0), some (.int x1), some (.int x2), some (.long (r6 - (Int32.toInt64 x1))), none]) (st' := [.ref 50]) (σ' := (S5, M, O)) (rfl) ?_
      obtain ⟨r10, hx11, hF⟩ := b1_i hF
      refine Ex_callK (K1 := 0) (K2 := 1) (kind := 2) (y := 208) (as := [.ref 50]) (rest := []) (L0 := [some (.ref 50)]) (d' := 3) (v := some (.int r10)) (σ1 := (S5, M, O)) rfl rfl mt_208 rfl rfl (by omega) (X_Pa_halvings (Nat.le_refl _) _ _ hx11) (Ex_st (st2 := [.int r10]) rfl ?_) (by omega)
      refine Ex_go 1 (pc' := 112) (L' := [some (.ref 0), some (.int x1), some (.int x2), some (.long (r6 - (Int32.toInt64 x1))), none]) (st' := [.long (Int32.toInt64 r10)]) (σ' := (S5, M, O)) (rfl) ?_
      cases hF
      exact Ex_fin rfl
    rw [if_neg hc] at hF
    refine Ex_br (c := x2 = 4) (fun hc => ?_) (fun hc => ?_)
    · rw [if_pos hc] at hF
      refine Ex_go 3 (pc' := 118) (L' := [some (.ref 0), some (.int x1), some (.int x2), some (.long (r6 - (Int32.toInt64 x1))), none]) (st' := [.ref 50, .int x1]) (σ' := (S5, M, O)) (rfl) ?_
      obtain ⟨r12, hx13, hF⟩ := b1_i hF
      refine Ex_callK (K1 := 0) (K2 := 1) (kind := 2) (y := 208) (as := [.ref 50]) (rest := [.int x1]) (L0 := [some (.ref 50)]) (d' := 3) (v := some (.int r12)) (σ1 := (S5, M, O)) rfl rfl mt_208 rfl rfl (by omega) (X_Pa_halvings (Nat.le_refl _) _ _ hx13) (Ex_st (st2 := [.int r12, .int x1]) rfl ?_) (by omega)
      refine Ex_go 2 (pc' := 123) (L' := [some (.ref 0), some (.int x1), some (.int x2), some (.long (r6 - (Int32.toInt64 x1))), none]) (st' := [.long (Int32.toInt64 (x1 >>> (r12 &&& 31)))]) (σ' := (S5, M, O)) (rfl) ?_
      cases hF
      exact Ex_fin rfl
    rw [if_neg hc] at hF
    cases hF
    exact Ex_thr rfl (by omega) (Nat.le_refl _)
def F_l_divided (x1 : Int32) (x2 : Int32) (S : Sto) (O : Sto) : Option (Int32 × Sto × Sto) := b2 (F_w_divided x1 x2 S) (fun r1 S3 => su r1 (fun v4 => some ((0 : Int32), S3, (ul O 2000 (vp_updL (al O 2000) (Int32.toNatClampNeg (0 : Int32)) v4)))) (fun z5 => if z5 = 0 then some ((2 : Int32), S3, O) else (if z5 = 1 then some ((1 : Int32), S3, O) else (none))))
set_option maxRecDepth 100000 in
theorem X_l_divided {nL : Nat} {xs : Nat → Int32} {M : Sto} {d : Nat} (hd : 9 ≤ d) : ∀ (x1 : Int32) (x2 : Int32) (S : Sto) (O : Sto) (r : Int32) (S' : Sto) (O' : Sto), F_l_divided x1 x2 S O = some (r, S', O') → EX nL xs 1 MI_210 d 0 [some (.ref 0), some (.int x1), some (.int x2), some (.ref 2000), none] [] (S, M, O) (.inl (some (.int r))) (S', M, O') := by
  intro x1 x2 S O r S' O' hF
  unfold F_l_divided at hF
  refine Ex_go 5 (pc' := 5) (L' := [some (.ref 0), some (.int x1), some (.int x2), some (.ref 2000), none]) (st' := [.int x2, .int x1, .ref 0, .int (0 : Int32), .ref 2000]) (σ' := (S, M, O)) (rfl) ?_
  obtain ⟨r1, S3, hx2, hF⟩ := b2_i hF
  cases r1 with
  | inl v4 =>
    rw [su_l] at hF
    refine Ex_callK (K1 := 1) (K2 := 0) (kind := 3) (y := 209) (as := [.ref 0, .int x1, .int x2]) (rest := [.int (0 : Int32), .ref 2000]) (L0 := [some (.ref 0), some (.int x1), some (.int x2), none, none]) (d' := 8) (v := some (.long v4)) (σ1 := (S3, M, O)) rfl rfl mt_209 rfl rfl (by omega) (X_w_divided (Nat.le_refl _) _ _ _ _ _ hx2) (Ex_st (st2 := [.long v4, .int (0 : Int32), .ref 2000]) rfl ?_) (by omega)
    refine Ex_chk (b := ib (0 : Int32) 1) (pc' := 9) (L' := [some (.ref 0), some (.int x1), some (.int x2), some (.ref 2000), none]) (st' := []) (σ' := (S3, M, (ul O 2000 (vp_updL (al O 2000) (Int32.toNatClampNeg (0 : Int32)) v4)))) rfl (by decide) ?_
    refine Ex_go 2 (pc' := 21) (L' := [some (.ref 0), some (.int x1), some (.int x2), some (.ref 2000), none]) (st' := [.int (0 : Int32)]) (σ' := (S3, M, (ul O 2000 (vp_updL (al O 2000) (Int32.toNatClampNeg (0 : Int32)) v4)))) (rfl) ?_
    cases hF
    exact Ex_fin rfl
  | inr z5 =>
    by_cases hz0 : z5 = 0
    · have hF : (if z5 = 0 then _ else _) = _ := hF
      rw [if_pos hz0] at hF
      subst hz0
      refine Ex_callX (K1 := 1) (K2 := 0) (y := 209) (as := [.ref 0, .int x1, .int x2]) (rest := [.int (0 : Int32), .ref 2000]) (L0 := [some (.ref 0), some (.int x1), some (.int x2), none, none]) (d' := 8) (σ1 := (S3, M, O)) (x := 0) (pc' := 18) (i := 4) rfl rfl mt_209 rfl rfl (by omega) (X_w_divided (Nat.le_refl _) _ _ _ _ _ hx2) rfl (Ex_L (L2 := [some (.ref 0), some (.int x1), some (.int x2), some (.ref 2000), none]) rfl ?_) (by omega)
      refine Ex_go 1 (pc' := 19) (L' := [some (.ref 0), some (.int x1), some (.int x2), some (.ref 2000), none]) (st' := [.int (2 : Int32)]) (σ' := (S3, M, O)) (rfl) ?_
      cases hF
      exact Ex_fin rfl
    have hF : (if z5 = 0 then _ else _) = _ := hF
    rw [if_neg hz0] at hF
    by_cases hz1 : z5 = 1
    · have hF : (if z5 = 1 then _ else _) = _ := hF
      rw [if_pos hz1] at hF
      subst hz1
      refine Ex_callX (K1 := 1) (K2 := 0) (y := 209) (as := [.ref 0, .int x1, .int x2]) (rest := [.int (0 : Int32), .ref 2000]) (L0 := [some (.ref 0), some (.int x1), some (.int x2), none, none]) (d' := 8) (σ1 := (S3, M, O)) (x := 1) (pc' := 14) (i := 4) rfl rfl mt_209 rfl rfl (by omega) (X_w_divided (Nat.le_refl _) _ _ _ _ _ hx2) rfl (Ex_L (L2 := [some (.ref 0), some (.int x1), some (.int x2), some (.ref 2000), none]) rfl ?_) (by omega)
      refine Ex_go 1 (pc' := 15) (L' := [some (.ref 0), some (.int x1), some (.int x2), some (.ref 2000), none]) (st' := [.int (1 : Int32)]) (σ' := (S3, M, O)) (rfl) ?_
      cases hF
      exact Ex_fin rfl
    have hF : (if z5 = 1 then _ else _) = _ := hF
    rw [if_neg hz1] at hF
    cases hF
def F_m_tellParts_85 (k9 : Int32 → Int32 → Sto → Option (Unit × Sto)) (x2 : Int32) (x3 : Int32) (M : Sto) : Option (Unit × Sto) := k9 x2 (x3 + (1 : Int32)) M
set_option maxRecDepth 100000 in
theorem X_m_tellParts_85 {nL : Nat} {xs : Nat → Int32} {S : Sto} {O : Sto} {d : Nat} (hd : 1 ≤ d) {k9 : Int32 → Int32 → Sto → Option (Unit × Sto)} (hk9 : ∀ (x2 : Int32) (x3 : Int32) (M : Sto) (r : Unit) (M' : Sto), k9 x2 x3 M = some (r, M') → EX nL xs 0 MI_204 d 9 [some (.ref 1000), none, some (.int x2), some (.int x3)] [] (S, M, O) (.inl none) (S, M', O)) : ∀ (x2 : Int32) (x3 : Int32) (M : Sto) (r : Unit) (M' : Sto), F_m_tellParts_85 k9 x2 x3 M = some (r, M') → EX nL xs 0 MI_204 d 85 [some (.ref 1000), none, some (.int x2), some (.int x3)] [] (S, M, O) (.inl none) (S, M', O) := by
  intro x2 x3 M r M' hF
  unfold F_m_tellParts_85 at hF
  refine Ex_go 2 (pc' := 9) (L' := [some (.ref 1000), none, some (.int x2), some (.int (x3 + (1 : Int32)))]) (st' := []) (σ' := (S, M, O)) (rfl) ?_
  exact Ex_mono (L := [some (.ref 1000), none, some (.int x2), some (.int (x3 + (1 : Int32)))]) (Le_s (Le_n (Le_s (Le_s (Le_0))))) (hk9 _ _ _ _ _ hF) (Nat.le_refl _) (by omega)
def F_m_tellParts_49 (k9 : Int32 → Int32 → Sto → Option (Unit × Sto)) : Nat → Int32 → Int32 → Sto → Option (Unit × Sto)
  | 0, _, _, _ => none
  | n + 1, x2, x3, M => ck (nzI x3) (if (x2 - x2 / x3 * x3) = 0 then ck (nzI x3) (ck (ib (gi M 1027) 10) (ck (ib (gi M 1027) 10) (F_m_tellParts_49 k9 n (x2 / x3) x3 (ui M 1021 (upd (ai M 1021) (Int32.toNatClampNeg (gi M 1027)) ((ai M 1021 (Int32.toNatClampNeg (gi M 1027))) + (1 : Int32))))))) else F_m_tellParts_85 k9 x2 x3 (si M 1027 ((gi M 1027) + (1 : Int32))))
set_option maxRecDepth 100000 in
theorem X_m_tellParts_49 {nL : Nat} {xs : Nat → Int32} {S : Sto} {O : Sto} {d : Nat} (hd : 1 ≤ d) {k9 : Int32 → Int32 → Sto → Option (Unit × Sto)} (hk9 : ∀ (x2 : Int32) (x3 : Int32) (M : Sto) (r : Unit) (M' : Sto), k9 x2 x3 M = some (r, M') → EX nL xs 0 MI_204 d 9 [some (.ref 1000), none, some (.int x2), some (.int x3)] [] (S, M, O) (.inl none) (S, M', O)) : ∀ n : Nat, ∀ (x2 : Int32) (x3 : Int32) (M : Sto) (r : Unit) (M' : Sto), F_m_tellParts_49 k9 n x2 x3 M = some (r, M') → EX nL xs 0 MI_204 d 49 [some (.ref 1000), none, some (.int x2), some (.int x3)] [] (S, M, O) (.inl none) (S, M', O) := by
  intro n
  induction n with
  | zero => intro x2 x3 M r M' hF; cases hF
  | succ n ih =>
  intro x2 x3 M r M' hF
  unfold F_m_tellParts_49 at hF
  refine Ex_go 2 (pc' := 51) (L' := [some (.ref 1000), none, some (.int x2), some (.int x3)]) (st' := [.int x3, .int x2]) (σ' := (S, M, O)) (rfl) ?_
  obtain ⟨hc1, hF⟩ := ck_i hF
  refine Ex_chk (b := nzI x3) (pc' := 52) (L' := [some (.ref 1000), none, some (.int x2), some (.int x3)]) (st' := [.int (x2 - x2 / x3 * x3)]) (σ' := (S, M, O)) rfl hc1 ?_
  refine Ex_go 1 (pc' := if ¬ (x2 - x2 / x3 * x3) = 0 then 75 else 55) (L' := [some (.ref 1000), none, some (.int x2), some (.int x3)]) (st' := []) (σ' := (S, M, O)) (rfl) ?_
  refine Ex_brN (fun hc => ?_) (fun hc => ?_)
  · rw [if_pos hc] at hF
    refine Ex_go 2 (pc' := 57) (L' := [some (.ref 1000), none, some (.int x2), some (.int x3)]) (st' := [.int x3, .int x2]) (σ' := (S, M, O)) (rfl) ?_
    obtain ⟨hc2, hF⟩ := ck_i hF
    refine Ex_chk (b := nzI x3) (pc' := 58) (L' := [some (.ref 1000), none, some (.int x2), some (.int x3)]) (st' := [.int (x2 / x3)]) (σ' := (S, M, O)) rfl hc2 ?_
    refine Ex_go 6 (pc' := 68) (L' := [some (.ref 1000), none, some (.int (x2 / x3)), some (.int x3)]) (st' := [.int (gi M 1027), .ref 1021, .int (gi M 1027), .ref 1021]) (σ' := (S, M, O)) (rfl) ?_
    obtain ⟨hc3, hF⟩ := ck_i hF
    refine Ex_chk (b := ib (gi M 1027) 10) (pc' := 69) (L' := [some (.ref 1000), none, some (.int (x2 / x3)), some (.int x3)]) (st' := [.int (ai M 1021 (Int32.toNatClampNeg (gi M 1027))), .int (gi M 1027), .ref 1021]) (σ' := (S, M, O)) rfl hc3 ?_
    refine Ex_go 2 (pc' := 71) (L' := [some (.ref 1000), none, some (.int (x2 / x3)), some (.int x3)]) (st' := [.int ((ai M 1021 (Int32.toNatClampNeg (gi M 1027))) + (1 : Int32)), .int (gi M 1027), .ref 1021]) (σ' := (S, M, O)) (rfl) ?_
    obtain ⟨hc4, hF⟩ := ck_i hF
    refine Ex_chk (b := ib (gi M 1027) 10) (pc' := 72) (L' := [some (.ref 1000), none, some (.int (x2 / x3)), some (.int x3)]) (st' := []) (σ' := (S, (ui M 1021 (upd (ai M 1021) (Int32.toNatClampNeg (gi M 1027)) ((ai M 1021 (Int32.toNatClampNeg (gi M 1027))) + (1 : Int32)))), O)) rfl hc4 ?_
    refine Ex_go 1 (pc' := 49) (L' := [some (.ref 1000), none, some (.int (x2 / x3)), some (.int x3)]) (st' := []) (σ' := (S, (ui M 1021 (upd (ai M 1021) (Int32.toNatClampNeg (gi M 1027)) ((ai M 1021 (Int32.toNatClampNeg (gi M 1027))) + (1 : Int32)))), O)) (rfl) ?_
    exact Ex_mono (L := [some (.ref 1000), none, some (.int (x2 / x3)), some (.int x3)]) (Le_s (Le_n (Le_s (Le_s (Le_0))))) (ih _ _ _ _ _ hF) (Nat.le_refl _) (by omega)
  · rw [if_neg hc] at hF
    refine Ex_go 6 (pc' := 85) (L' := [some (.ref 1000), none, some (.int x2), some (.int x3)]) (st' := []) (σ' := (S, (si M 1027 ((gi M 1027) + (1 : Int32))), O)) (rfl) ?_
    exact Ex_mono (L := [some (.ref 1000), none, some (.int x2), some (.int x3)]) (Le_s (Le_n (Le_s (Le_s (Le_0))))) (X_m_tellParts_85 hd hk9 _ _ _ _ _ hF) (Nat.le_refl _) (by omega)
def F_m_tellParts_9 : Nat → Int32 → Int32 → Sto → Option (Unit × Sto)
  | 0, _, _, _ => none
  | n + 1, x2, x3, M => if (Int32.toInt64 x2) < ((Int32.toInt64 x3) * (Int32.toInt64 x3)) then if x2 = (1 : Int32) then some ((), M) else ck (ib (gi M 1027) 10) (ck (ib (gi (ui M 1020 (upd (ai M 1020) (Int32.toNatClampNeg (gi M 1027)) x2)) 1027) 10) (some ((), (si (ui (ui M 1020 (upd (ai M 1020) (Int32.toNatClampNeg (gi M 1027)) x2)) 1021 (upd (ai (ui M 1020 (upd (ai M 1020) (Int32.toNatClampNeg (gi M 1027)) x2)) 1021) (Int32.toNatClampNeg (gi (ui M 1020 (upd (ai M 1020) (Int32.toNatClampNeg (gi M 1027)) x2)) 1027)) (1 : Int32))) 1027 ((gi (ui (ui M 1020 (upd (ai M 1020) (Int32.toNatClampNeg (gi M 1027)) x2)) 1021 (upd (ai (ui M 1020 (upd (ai M 1020) (Int32.toNatClampNeg (gi M 1027)) x2)) 1021) (Int32.toNatClampNeg (gi (ui M 1020 (upd (ai M 1020) (Int32.toNatClampNeg (gi M 1027)) x2)) 1027)) (1 : Int32))) 1027) + (1 : Int32)))))) else ck (nzI x3) (if (x2 - x2 / x3 * x3) = 0 then ck (ib (gi M 1027) 10) (ck (ib (gi (ui M 1020 (upd (ai M 1020) (Int32.toNatClampNeg (gi M 1027)) x3)) 1027) 10) (F_m_tellParts_49 (F_m_tellParts_9 n) FU x2 x3 (ui (ui M 1020 (upd (ai M 1020) (Int32.toNatClampNeg (gi M 1027)) x3)) 1021 (upd (ai (ui M 1020 (upd (ai M 1020) (Int32.toNatClampNeg (gi M 1027)) x3)) 1021) (Int32.toNatClampNeg (gi (ui M 1020 (upd (ai M 1020) (Int32.toNatClampNeg (gi M 1027)) x3)) 1027)) (0 : Int32))))) else F_m_tellParts_85 (F_m_tellParts_9 n) x2 x3 M)
set_option maxRecDepth 100000 in
theorem X_m_tellParts_9 {nL : Nat} {xs : Nat → Int32} {S : Sto} {O : Sto} {d : Nat} (hd : 1 ≤ d) : ∀ n : Nat, ∀ (x2 : Int32) (x3 : Int32) (M : Sto) (r : Unit) (M' : Sto), F_m_tellParts_9 n x2 x3 M = some (r, M') → EX nL xs 0 MI_204 d 9 [some (.ref 1000), none, some (.int x2), some (.int x3)] [] (S, M, O) (.inl none) (S, M', O) := by
  intro n
  induction n with
  | zero => intro x2 x3 M r M' hF; cases hF
  | succ n ih =>
  intro x2 x3 M r M' hF
  unfold F_m_tellParts_9 at hF
  refine Ex_go 9 (pc' := if 0 < (lg_cmp ((Int32.toInt64 x3) * (Int32.toInt64 x3)) (Int32.toInt64 x2)) then 91 else 20) (L' := [some (.ref 1000), none, some (.int x2), some (.int x3)]) (st' := []) (σ' := (S, M, O)) (rfl) ?_
  refine Ex_brI lc_gt (fun hc => ?_) (fun hc => ?_)
  · rw [if_pos hc] at hF
    refine Ex_go 3 (pc' := if ¬ x2 = (1 : Int32) then 97 else 96) (L' := [some (.ref 1000), none, some (.int x2), some (.int x3)]) (st' := []) (σ' := (S, M, O)) (rfl) ?_
    refine Ex_brN (fun hc => ?_) (fun hc => ?_)
    · rw [if_pos hc] at hF
      cases hF
      exact Ex_fin rfl
    · rw [if_neg hc] at hF
      refine Ex_go 5 (pc' := 106) (L' := [some (.ref 1000), none, some (.int x2), some (.int x3)]) (st' := [.int x2, .int (gi M 1027), .ref 1020]) (σ' := (S, M, O)) (rfl) ?_
      obtain ⟨hc1, hF⟩ := ck_i hF
      refine Ex_chk (b := ib (gi M 1027) 10) (pc' := 107) (L' := [some (.ref 1000), none, some (.int x2), some (.int x3)]) (st' := []) (σ' := (S, (ui M 1020 (upd (ai M 1020) (Int32.toNatClampNeg (gi M 1027)) x2)), O)) rfl hc1 ?_
      refine Ex_go 5 (pc' := 116) (L' := [some (.ref 1000), none, some (.int x2), some (.int x3)]) (st' := [.int (1 : Int32), .int (gi (ui M 1020 (upd (ai M 1020) (Int32.toNatClampNeg (gi M 1027)) x2)) 1027), .ref 1021]) (σ' := (S, (ui M 1020 (upd (ai M 1020) (Int32.toNatClampNeg (gi M 1027)) x2)), O)) (rfl) ?_
      obtain ⟨hc2, hF⟩ := ck_i hF
      refine Ex_chk (b := ib (gi (ui M 1020 (upd (ai M 1020) (Int32.toNatClampNeg (gi M 1027)) x2)) 1027) 10) (pc' := 117) (L' := [some (.ref 1000), none, some (.int x2), some (.int x3)]) (st' := []) (σ' := (S, (ui (ui M 1020 (upd (ai M 1020) (Int32.toNatClampNeg (gi M 1027)) x2)) 1021 (upd (ai (ui M 1020 (upd (ai M 1020) (Int32.toNatClampNeg (gi M 1027)) x2)) 1021) (Int32.toNatClampNeg (gi (ui M 1020 (upd (ai M 1020) (Int32.toNatClampNeg (gi M 1027)) x2)) 1027)) (1 : Int32))), O)) rfl hc2 ?_
      refine Ex_go 6 (pc' := 127) (L' := [some (.ref 1000), none, some (.int x2), some (.int x3)]) (st' := []) (σ' := (S, (si (ui (ui M 1020 (upd (ai M 1020) (Int32.toNatClampNeg (gi M 1027)) x2)) 1021 (upd (ai (ui M 1020 (upd (ai M 1020) (Int32.toNatClampNeg (gi M 1027)) x2)) 1021) (Int32.toNatClampNeg (gi (ui M 1020 (upd (ai M 1020) (Int32.toNatClampNeg (gi M 1027)) x2)) 1027)) (1 : Int32))) 1027 ((gi (ui (ui M 1020 (upd (ai M 1020) (Int32.toNatClampNeg (gi M 1027)) x2)) 1021 (upd (ai (ui M 1020 (upd (ai M 1020) (Int32.toNatClampNeg (gi M 1027)) x2)) 1021) (Int32.toNatClampNeg (gi (ui M 1020 (upd (ai M 1020) (Int32.toNatClampNeg (gi M 1027)) x2)) 1027)) (1 : Int32))) 1027) + (1 : Int32))), O)) (rfl) ?_
      cases hF
      exact Ex_fin rfl
  · rw [if_neg hc] at hF
    refine Ex_go 2 (pc' := 22) (L' := [some (.ref 1000), none, some (.int x2), some (.int x3)]) (st' := [.int x3, .int x2]) (σ' := (S, M, O)) (rfl) ?_
    obtain ⟨hc3, hF⟩ := ck_i hF
    refine Ex_chk (b := nzI x3) (pc' := 23) (L' := [some (.ref 1000), none, some (.int x2), some (.int x3)]) (st' := [.int (x2 - x2 / x3 * x3)]) (σ' := (S, M, O)) rfl hc3 ?_
    refine Ex_go 1 (pc' := if (x2 - x2 / x3 * x3) = 0 then 29 else 26) (L' := [some (.ref 1000), none, some (.int x2), some (.int x3)]) (st' := []) (σ' := (S, M, O)) (rfl) ?_
    refine Ex_br (fun hc => ?_) (fun hc => ?_)
    · rw [if_pos hc] at hF
      refine Ex_go 5 (pc' := 38) (L' := [some (.ref 1000), none, some (.int x2), some (.int x3)]) (st' := [.int x3, .int (gi M 1027), .ref 1020]) (σ' := (S, M, O)) (rfl) ?_
      obtain ⟨hc4, hF⟩ := ck_i hF
      refine Ex_chk (b := ib (gi M 1027) 10) (pc' := 39) (L' := [some (.ref 1000), none, some (.int x2), some (.int x3)]) (st' := []) (σ' := (S, (ui M 1020 (upd (ai M 1020) (Int32.toNatClampNeg (gi M 1027)) x3)), O)) rfl hc4 ?_
      refine Ex_go 5 (pc' := 48) (L' := [some (.ref 1000), none, some (.int x2), some (.int x3)]) (st' := [.int (0 : Int32), .int (gi (ui M 1020 (upd (ai M 1020) (Int32.toNatClampNeg (gi M 1027)) x3)) 1027), .ref 1021]) (σ' := (S, (ui M 1020 (upd (ai M 1020) (Int32.toNatClampNeg (gi M 1027)) x3)), O)) (rfl) ?_
      obtain ⟨hc5, hF⟩ := ck_i hF
      refine Ex_chk (b := ib (gi (ui M 1020 (upd (ai M 1020) (Int32.toNatClampNeg (gi M 1027)) x3)) 1027) 10) (pc' := 49) (L' := [some (.ref 1000), none, some (.int x2), some (.int x3)]) (st' := []) (σ' := (S, (ui (ui M 1020 (upd (ai M 1020) (Int32.toNatClampNeg (gi M 1027)) x3)) 1021 (upd (ai (ui M 1020 (upd (ai M 1020) (Int32.toNatClampNeg (gi M 1027)) x3)) 1021) (Int32.toNatClampNeg (gi (ui M 1020 (upd (ai M 1020) (Int32.toNatClampNeg (gi M 1027)) x3)) 1027)) (0 : Int32))), O)) rfl hc5 ?_
      exact Ex_mono (L := [some (.ref 1000), none, some (.int x2), some (.int x3)]) (Le_s (Le_n (Le_s (Le_s (Le_0))))) (X_m_tellParts_49 hd ih FU _ _ _ _ _ hF) (Nat.le_refl _) (by omega)
    · rw [if_neg hc] at hF
      refine Ex_go 1 (pc' := 85) (L' := [some (.ref 1000), none, some (.int x2), some (.int x3)]) (st' := []) (σ' := (S, M, O)) (rfl) ?_
      exact Ex_mono (L := [some (.ref 1000), none, some (.int x2), some (.int x3)]) (Le_s (Le_n (Le_s (Le_s (Le_0))))) (X_m_tellParts_85 hd ih _ _ _ _ _ hF) (Nat.le_refl _) (by omega)
def F_m_tellParts (x1 : Int32) (M : Sto) : Option (Unit × Sto) := F_m_tellParts_9 FU x1 (2 : Int32) (si M 1027 (0 : Int32))
set_option maxRecDepth 100000 in
theorem X_m_tellParts {nL : Nat} {xs : Nat → Int32} {S : Sto} {O : Sto} {d : Nat} (hd : 1 ≤ d) : ∀ (x1 : Int32) (M : Sto) (r : Unit) (M' : Sto), F_m_tellParts x1 M = some (r, M') → EX nL xs 0 MI_204 d 0 [some (.ref 1000), some (.int x1), none, none] [] (S, M, O) (.inl none) (S, M', O) := by
  intro x1 M r M' hF
  unfold F_m_tellParts at hF
  refine Ex_go 7 (pc' := 9) (L' := [some (.ref 1000), some (.int x1), some (.int x1), some (.int (2 : Int32))]) (st' := []) (σ' := (S, (si M 1027 (0 : Int32)), O)) (rfl) ?_
  exact Ex_mono (L := [some (.ref 1000), none, some (.int x1), some (.int (2 : Int32))]) (Le_s (Le_n (Le_s (Le_s (Le_0))))) (X_m_tellParts_9 hd FU _ _ _ _ _ hF) (Nat.le_refl _) (by omega)
def F_m_divided_47 (k32 : Int32 → Int32 → Int64 → Int64 → Int32 → Sto → Option (Int64 × Sto)) : Nat → Int32 → Int32 → Int64 → Int64 → Int32 → Int64 → Int32 → Sto → Option (Int64 × Sto)
  | 0, _, _, _, _, _, _, _, _ => none
  | n + 1, x1, x2, x3, x5, x7, x8, x10, M => ck (ib x7 10) (if (ai M 1021 (Int32.toNatClampNeg x7)) ≤ x10 then ck (ib x7 10) (nm (x3 * (Int32.toInt64 ((ai M 1021 (Int32.toNatClampNeg x7)) + (1 : Int32)))) (fun t3 => k32 x1 x2 t3 (x5 * x8) (x7 + (1 : Int32)) M)) else ck (ib x7 10) (nm ((x8 * (Int32.toInt64 (ai M 1020 (Int32.toNatClampNeg x7)))) + (1 : Int64)) (fun t6 => F_m_divided_47 k32 n x1 x2 x3 x5 x7 t6 (x10 + (1 : Int32)) M)))
set_option maxRecDepth 100000 in
theorem X_m_divided_47 {nL : Nat} {xs : Nat → Int32} {S : Sto} {O : Sto} {d : Nat} (hd : 3 ≤ d) {k32 : Int32 → Int32 → Int64 → Int64 → Int32 → Sto → Option (Int64 × Sto)} (hk32 : ∀ (x1 : Int32) (x2 : Int32) (x3 : Int64) (x5 : Int64) (x7 : Int32) (M : Sto) (r : Int64) (M' : Sto), k32 x1 x2 x3 x5 x7 M = some (r, M') → EX nL xs 0 MI_211 d 32 [some (.ref 1000), some (.int x1), some (.int x2), some (.long x3), none, some (.long x5), none, some (.int x7), none, none, none] [] (S, M, O) (.inl (some (.long r))) (S, M', O)) : ∀ n : Nat, ∀ (x1 : Int32) (x2 : Int32) (x3 : Int64) (x5 : Int64) (x7 : Int32) (x8 : Int64) (x10 : Int32) (M : Sto) (r : Int64) (M' : Sto), F_m_divided_47 k32 n x1 x2 x3 x5 x7 x8 x10 M = some (r, M') → EX nL xs 0 MI_211 d 47 [some (.ref 1000), some (.int x1), some (.int x2), some (.long x3), none, some (.long x5), none, some (.int x7), some (.long x8), none, some (.int x10)] [] (S, M, O) (.inl (some (.long r))) (S, M', O) := by
  intro n
  induction n with
  | zero => intro x1 x2 x3 x5 x7 x8 x10 M r M' hF; cases hF
  | succ n ih =>
  intro x1 x2 x3 x5 x7 x8 x10 M r M' hF
  unfold F_m_divided_47 at hF
  refine Ex_go 4 (pc' := 55) (L' := [some (.ref 1000), some (.int x1), some (.int x2), some (.long x3), none, some (.long x5), none, some (.int x7), some (.long x8), none, some (.int x10)]) (st' := [.int x7, .ref 1021, .int x10]) (σ' := (S, M, O)) (rfl) ?_
  obtain ⟨hc1, hF⟩ := ck_i hF
  refine Ex_chk (b := ib x7 10) (pc' := 56) (L' := [some (.ref 1000), some (.int x1), some (.int x2), some (.long x3), none, some (.long x5), none, some (.int x7), some (.long x8), none, some (.int x10)]) (st' := [.int (ai M 1021 (Int32.toNatClampNeg x7)), .int x10]) (σ' := (S, M, O)) rfl hc1 ?_
  refine Ex_go 1 (pc' := if (ai M 1021 (Int32.toNatClampNeg x7)) ≤ x10 then 80 else 59) (L' := [some (.ref 1000), some (.int x1), some (.int x2), some (.long x3), none, some (.long x5), none, some (.int x7), some (.long x8), none, some (.int x10)]) (st' := []) (σ' := (S, M, O)) (rfl) ?_
  refine Ex_br (fun hc => ?_) (fun hc => ?_)
  · rw [if_pos hc] at hF
    refine Ex_go 8 (pc' := 94) (L' := [some (.ref 1000), some (.int x1), some (.int x2), some (.long x3), none, some (.long (x5 * x8)), none, some (.int x7), some (.long x8), none, some (.int x10)]) (st' := [.int x7, .ref 1021, .long x3]) (σ' := (S, M, O)) (rfl) ?_
    obtain ⟨hc2, hF⟩ := ck_i hF
    refine Ex_chk (b := ib x7 10) (pc' := 95) (L' := [some (.ref 1000), some (.int x1), some (.int x2), some (.long x3), none, some (.long (x5 * x8)), none, some (.int x7), some (.long x8), none, some (.int x10)]) (st' := [.int (ai M 1021 (Int32.toNatClampNeg x7)), .long x3]) (σ' := (S, M, O)) rfl hc2 ?_
    obtain ⟨t3, ht4, hF⟩ := nm_i hF
    refine Ex_go 5 (pc' := 100) (L' := [some (.ref 1000), some (.int x1), some (.int x2), some (.long t3), none, some (.long (x5 * x8)), none, some (.int x7), some (.long x8), none, some (.int x10)]) (st' := []) (σ' := (S, M, O)) (by rw [ht4]; rfl) ?_
    refine Ex_go 2 (pc' := 32) (L' := [some (.ref 1000), some (.int x1), some (.int x2), some (.long t3), none, some (.long (x5 * x8)), none, some (.int (x7 + (1 : Int32))), some (.long x8), none, some (.int x10)]) (st' := []) (σ' := (S, M, O)) (rfl) ?_
    exact Ex_mono (L := [some (.ref 1000), some (.int x1), some (.int x2), some (.long t3), none, some (.long (x5 * x8)), none, some (.int (x7 + (1 : Int32))), none, none, none]) (Le_s (Le_s (Le_s (Le_s (Le_n (Le_s (Le_n (Le_s (Le_n (Le_n (Le_n (Le_0)))))))))))) (hk32 _ _ _ _ _ _ _ _ hF) (Nat.le_refl _) (by omega)
  · rw [if_neg hc] at hF
    refine Ex_go 4 (pc' := 67) (L' := [some (.ref 1000), some (.int x1), some (.int x2), some (.long x3), none, some (.long x5), none, some (.int x7), some (.long x8), none, some (.int x10)]) (st' := [.int x7, .ref 1020, .long x8]) (σ' := (S, M, O)) (rfl) ?_
    obtain ⟨hc5, hF⟩ := ck_i hF
    refine Ex_chk (b := ib x7 10) (pc' := 68) (L' := [some (.ref 1000), some (.int x1), some (.int x2), some (.long x3), none, some (.long x5), none, some (.int x7), some (.long x8), none, some (.int x10)]) (st' := [.int (ai M 1020 (Int32.toNatClampNeg x7)), .long x8]) (σ' := (S, M, O)) rfl hc5 ?_
    obtain ⟨t6, ht7, hF⟩ := nm_i hF
    refine Ex_go 5 (pc' := 74) (L' := [some (.ref 1000), some (.int x1), some (.int x2), some (.long x3), none, some (.long x5), none, some (.int x7), some (.long t6), none, some (.int x10)]) (st' := []) (σ' := (S, M, O)) (by rw [ht7]; rfl) ?_
    refine Ex_go 2 (pc' := 47) (L' := [some (.ref 1000), some (.int x1), some (.int x2), some (.long x3), none, some (.long x5), none, some (.int x7), some (.long t6), none, some (.int (x10 + (1 : Int32)))]) (st' := []) (σ' := (S, M, O)) (rfl) ?_
    exact Ex_mono (L := [some (.ref 1000), some (.int x1), some (.int x2), some (.long x3), none, some (.long x5), none, some (.int x7), some (.long t6), none, some (.int (x10 + (1 : Int32)))]) (Le_s (Le_s (Le_s (Le_s (Le_n (Le_s (Le_n (Le_s (Le_s (Le_n (Le_s (Le_0)))))))))))) (ih _ _ _ _ _ _ _ _ _ _ hF) (Nat.le_refl _) (by omega)
def F_m_divided_119 : Nat → Int32 → Int32 → Int64 → Int64 → Int32 → Int32 → Sto → Option (Int64 × Sto)
  | 0, _, _, _, _, _, _, _ => none
  | n + 1, x1, x2, x3, x5, x7, x8, M => if (x8 - x8 / (2 : Int32) * (2 : Int32)) = 0 then F_m_divided_119 n x1 x2 x3 x5 (x7 + (1 : Int32)) (x8 / (2 : Int32)) M else if x2 = 0 then some (x3, M) else (if x2 = 1 then some (x5, M) else (if x2 = 2 then if (Int32.toInt64 x1) ≤ x5 then if x5 = (Int32.toInt64 x1) then some ((1 : Int64), M) else some ((2 : Int64), M) else some ((0 : Int64), M) else (if x2 = 3 then some ((Int32.toInt64 x7), M) else (if x2 = 4 then some ((Int32.toInt64 x8), M) else (b2 (F_m_fail (1 : Int32) M) (fun r1 M3 => some ((Int32.toInt64 r1), M3)))))))
set_option maxRecDepth 100000 in
theorem X_m_divided_119 {nL : Nat} {xs : Nat → Int32} {S : Sto} {O : Sto} {d : Nat} (hd : 3 ≤ d) : ∀ n : Nat, ∀ (x1 : Int32) (x2 : Int32) (x3 : Int64) (x5 : Int64) (x7 : Int32) (x8 : Int32) (M : Sto) (r : Int64) (M' : Sto), F_m_divided_119 n x1 x2 x3 x5 x7 x8 M = some (r, M') → EX nL xs 0 MI_211 d 119 [some (.ref 1000), some (.int x1), some (.int x2), some (.long x3), none, some (.long x5), none, some (.int x7), some (.int x8), none, none] [] (S, M, O) (.inl (some (.long r))) (S, M', O) := by
  intro n
  induction n with
  | zero => intro x1 x2 x3 x5 x7 x8 M r M' hF; cases hF
  | succ n ih =>
  intro x1 x2 x3 x5 x7 x8 M r M' hF
  unfold F_m_divided_119 at hF
  refine Ex_go 2 (pc' := 122) (L' := [some (.ref 1000), some (.int x1), some (.int x2), some (.long x3), none, some (.long x5), none, some (.int x7), some (.int x8), none, none]) (st' := [.int (2 : Int32), .int x8]) (σ' := (S, M, O)) (rfl) ?_
  refine Ex_chk (b := nzI (2 : Int32)) (pc' := 123) (L' := [some (.ref 1000), some (.int x1), some (.int x2), some (.long x3), none, some (.long x5), none, some (.int x7), some (.int x8), none, none]) (st' := [.int (x8 - x8 / (2 : Int32) * (2 : Int32))]) (σ' := (S, M, O)) rfl (by decide) ?_
  refine Ex_go 1 (pc' := if ¬ (x8 - x8 / (2 : Int32) * (2 : Int32)) = 0 then 138 else 126) (L' := [some (.ref 1000), some (.int x1), some (.int x2), some (.long x3), none, some (.long x5), none, some (.int x7), some (.int x8), none, none]) (st' := []) (σ' := (S, M, O)) (rfl) ?_
  refine Ex_brN (fun hc => ?_) (fun hc => ?_)
  · rw [if_pos hc] at hF
    refine Ex_go 2 (pc' := 129) (L' := [some (.ref 1000), some (.int x1), some (.int x2), some (.long x3), none, some (.long x5), none, some (.int x7), some (.int x8), none, none]) (st' := [.int (2 : Int32), .int x8]) (σ' := (S, M, O)) (rfl) ?_
    refine Ex_chk (b := nzI (2 : Int32)) (pc' := 130) (L' := [some (.ref 1000), some (.int x1), some (.int x2), some (.long x3), none, some (.long x5), none, some (.int x7), some (.int x8), none, none]) (st' := [.int (x8 / (2 : Int32))]) (σ' := (S, M, O)) rfl (by decide) ?_
    refine Ex_go 3 (pc' := 119) (L' := [some (.ref 1000), some (.int x1), some (.int x2), some (.long x3), none, some (.long x5), none, some (.int (x7 + (1 : Int32))), some (.int (x8 / (2 : Int32))), none, none]) (st' := []) (σ' := (S, M, O)) (rfl) ?_
    exact Ex_mono (L := [some (.ref 1000), some (.int x1), some (.int x2), some (.long x3), none, some (.long x5), none, some (.int (x7 + (1 : Int32))), some (.int (x8 / (2 : Int32))), none, none]) (Le_s (Le_s (Le_s (Le_s (Le_n (Le_s (Le_n (Le_s (Le_s (Le_n (Le_n (Le_0)))))))))))) (ih _ _ _ _ _ _ _ _ _ hF) (Nat.le_refl _) (by omega)
  · rw [if_neg hc] at hF
    refine Ex_go 2 (pc' := swp x2 [(0, 172), (1, 174), (2, 177), (3, 205), (4, 209)] 213) (L' := [some (.ref 1000), some (.int x1), some (.int x2), some (.long x3), none, some (.long x5), none, some (.int x7), some (.int x8), none, none]) (st' := []) (σ' := (S, M, O)) (rfl) ?_
    refine Ex_br (c := x2 = 0) (fun hc => ?_) (fun hc => ?_)
    · rw [if_pos hc] at hF
      refine Ex_go 1 (pc' := 173) (L' := [some (.ref 1000), some (.int x1), some (.int x2), some (.long x3), none, some (.long x5), none, some (.int x7), some (.int x8), none, none]) (st' := [.long x3]) (σ' := (S, M, O)) (rfl) ?_
      cases hF
      exact Ex_fin rfl
    rw [if_neg hc] at hF
    refine Ex_br (c := x2 = 1) (fun hc => ?_) (fun hc => ?_)
    · rw [if_pos hc] at hF
      refine Ex_go 1 (pc' := 176) (L' := [some (.ref 1000), some (.int x1), some (.int x2), some (.long x3), none, some (.long x5), none, some (.int x7), some (.int x8), none, none]) (st' := [.long x5]) (σ' := (S, M, O)) (rfl) ?_
      cases hF
      exact Ex_fin rfl
    rw [if_neg hc] at hF
    refine Ex_br (c := x2 = 2) (fun hc => ?_) (fun hc => ?_)
    · rw [if_pos hc] at hF
      refine Ex_go 5 (pc' := if 0 ≤ (lg_cmp x5 (Int32.toInt64 x1)) then 189 else 185) (L' := [some (.ref 1000), some (.int x1), some (.int x2), some (.long x3), none, some (.long x5), none, some (.int x7), some (.int x8), none, none]) (st' := []) (σ' := (S, M, O)) (rfl) ?_
      refine Ex_brI lc_ge (fun hc => ?_) (fun hc => ?_)
      · rw [if_pos hc] at hF
        refine Ex_go 5 (pc' := if ¬ (lg_cmp x5 (Int32.toInt64 x1)) = 0 then 201 else 197) (L' := [some (.ref 1000), some (.int x1), some (.int x2), some (.long x3), none, some (.long x5), none, some (.int x7), some (.int x8), none, none]) (st' := []) (σ' := (S, M, O)) (rfl) ?_
        refine Ex_brNI lc_ne (fun hc => ?_) (fun hc => ?_)
        · rw [if_pos hc] at hF
          refine Ex_go 2 (pc' := 204) (L' := [some (.ref 1000), some (.int x1), some (.int x2), some (.long x3), none, some (.long x5), none, some (.int x7), some (.int x8), none, none]) (st' := [.long (1 : Int64)]) (σ' := (S, M, O)) (rfl) ?_
          cases hF
          exact Ex_fin rfl
        · rw [if_neg hc] at hF
          refine Ex_go 1 (pc' := 204) (L' := [some (.ref 1000), some (.int x1), some (.int x2), some (.long x3), none, some (.long x5), none, some (.int x7), some (.int x8), none, none]) (st' := [.long (2 : Int64)]) (σ' := (S, M, O)) (rfl) ?_
          cases hF
          exact Ex_fin rfl
      · rw [if_neg hc] at hF
        refine Ex_go 2 (pc' := 204) (L' := [some (.ref 1000), some (.int x1), some (.int x2), some (.long x3), none, some (.long x5), none, some (.int x7), some (.int x8), none, none]) (st' := [.long (0 : Int64)]) (σ' := (S, M, O)) (rfl) ?_
        cases hF
        exact Ex_fin rfl
    rw [if_neg hc] at hF
    refine Ex_br (c := x2 = 3) (fun hc => ?_) (fun hc => ?_)
    · rw [if_pos hc] at hF
      refine Ex_go 2 (pc' := 208) (L' := [some (.ref 1000), some (.int x1), some (.int x2), some (.long x3), none, some (.long x5), none, some (.int x7), some (.int x8), none, none]) (st' := [.long (Int32.toInt64 x7)]) (σ' := (S, M, O)) (rfl) ?_
      cases hF
      exact Ex_fin rfl
    rw [if_neg hc] at hF
    refine Ex_br (c := x2 = 4) (fun hc => ?_) (fun hc => ?_)
    · rw [if_pos hc] at hF
      refine Ex_go 2 (pc' := 212) (L' := [some (.ref 1000), some (.int x1), some (.int x2), some (.long x3), none, some (.long x5), none, some (.int x7), some (.int x8), none, none]) (st' := [.long (Int32.toInt64 x8)]) (σ' := (S, M, O)) (rfl) ?_
      cases hF
      exact Ex_fin rfl
    rw [if_neg hc] at hF
    refine Ex_go 2 (pc' := 215) (L' := [some (.ref 1000), some (.int x1), some (.int x2), some (.long x3), none, some (.long x5), none, some (.int x7), some (.int x8), none, none]) (st' := [.int (1 : Int32), .ref 1000]) (σ' := (S, M, O)) (rfl) ?_
    obtain ⟨r1, M3, hx2, hF⟩ := b2_i hF
    refine Ex_call (kind := 2) (y := 50) (as := [.ref 1000, .int (1 : Int32)]) (rest := []) (L0 := [some (.ref 1000), some (.int (1 : Int32))]) (d' := 1) (v := some (.int r1)) (σ1 := (S, M3, O)) rfl rfl mt_50 rfl rfl (by omega) (X_m_fail (Nat.le_refl _) _ _ _ _ hx2) (Ex_st (st2 := [.int r1]) rfl ?_)
    refine Ex_go 1 (pc' := 219) (L' := [some (.ref 1000), some (.int x1), some (.int x2), some (.long x3), none, some (.long x5), none, some (.int x7), some (.int x8), none, none]) (st' := [.long (Int32.toInt64 r1)]) (σ' := (S, M3, O)) (rfl) ?_
    cases hF
    exact Ex_fin rfl
def F_m_divided_32 : Nat → Int32 → Int32 → Int64 → Int64 → Int32 → Sto → Option (Int64 × Sto)
  | 0, _, _, _, _, _, _ => none
  | n + 1, x1, x2, x3, x5, x7, M => if (gi M 1027) ≤ x7 then F_m_divided_119 FU x1 x2 x3 (x5 - (Int32.toInt64 x1)) (0 : Int32) x1 M else F_m_divided_47 (F_m_divided_32 n) FU x1 x2 x3 x5 x7 (1 : Int64) (0 : Int32) M
set_option maxRecDepth 100000 in
theorem X_m_divided_32 {nL : Nat} {xs : Nat → Int32} {S : Sto} {O : Sto} {d : Nat} (hd : 3 ≤ d) : ∀ n : Nat, ∀ (x1 : Int32) (x2 : Int32) (x3 : Int64) (x5 : Int64) (x7 : Int32) (M : Sto) (r : Int64) (M' : Sto), F_m_divided_32 n x1 x2 x3 x5 x7 M = some (r, M') → EX nL xs 0 MI_211 d 32 [some (.ref 1000), some (.int x1), some (.int x2), some (.long x3), none, some (.long x5), none, some (.int x7), none, none, none] [] (S, M, O) (.inl (some (.long r))) (S, M', O) := by
  intro n
  induction n with
  | zero => intro x1 x2 x3 x5 x7 M r M' hF; cases hF
  | succ n ih =>
  intro x1 x2 x3 x5 x7 M r M' hF
  unfold F_m_divided_32 at hF
  refine Ex_go 4 (pc' := if (gi M 1027) ≤ x7 then 106 else 41) (L' := [some (.ref 1000), some (.int x1), some (.int x2), some (.long x3), none, some (.long x5), none, some (.int x7), none, none, none]) (st' := []) (σ' := (S, M, O)) (rfl) ?_
  refine Ex_br (fun hc => ?_) (fun hc => ?_)
  · rw [if_pos hc] at hF
    refine Ex_go 9 (pc' := 119) (L' := [some (.ref 1000), some (.int x1), some (.int x2), some (.long x3), none, some (.long (x5 - (Int32.toInt64 x1))), none, some (.int (0 : Int32)), some (.int x1), none, none]) (st' := []) (σ' := (S, M, O)) (rfl) ?_
    exact Ex_mono (L := [some (.ref 1000), some (.int x1), some (.int x2), some (.long x3), none, some (.long (x5 - (Int32.toInt64 x1))), none, some (.int (0 : Int32)), some (.int x1), none, none]) (Le_s (Le_s (Le_s (Le_s (Le_n (Le_s (Le_n (Le_s (Le_s (Le_n (Le_n (Le_0)))))))))))) (X_m_divided_119 hd FU _ _ _ _ _ _ _ _ _ hF) (Nat.le_refl _) (by omega)
  · rw [if_neg hc] at hF
    refine Ex_go 4 (pc' := 47) (L' := [some (.ref 1000), some (.int x1), some (.int x2), some (.long x3), none, some (.long x5), none, some (.int x7), some (.long (1 : Int64)), none, some (.int (0 : Int32))]) (st' := []) (σ' := (S, M, O)) (rfl) ?_
    exact Ex_mono (L := [some (.ref 1000), some (.int x1), some (.int x2), some (.long x3), none, some (.long x5), none, some (.int x7), some (.long (1 : Int64)), none, some (.int (0 : Int32))]) (Le_s (Le_s (Le_s (Le_s (Le_n (Le_s (Le_n (Le_s (Le_s (Le_n (Le_s (Le_0)))))))))))) (X_m_divided_47 hd ih FU _ _ _ _ _ _ _ _ _ _ hF) (Nat.le_refl _) (by omega)
def F_m_divided (x1 : Int32) (x2 : Int32) (M : Sto) : Option (Int64 × Sto) := b1 (F_m_isSmall x1) (fun r1 => if r1 = 0 then b2 (F_m_fail (2 : Int32) (si M 1001 (0 : Int32))) (fun r6 M8 => some ((Int32.toInt64 r6), M8)) else b2 (F_m_tellParts x1 (si M 1001 (0 : Int32))) (fun r3 M5 => F_m_divided_32 FU x1 x2 (1 : Int64) (1 : Int64) (0 : Int32) M5))
set_option maxRecDepth 100000 in
theorem X_m_divided {nL : Nat} {xs : Nat → Int32} {S : Sto} {O : Sto} {d : Nat} (hd : 3 ≤ d) : ∀ (x1 : Int32) (x2 : Int32) (M : Sto) (r : Int64) (M' : Sto), F_m_divided x1 x2 M = some (r, M') → EX nL xs 0 MI_211 d 0 [some (.ref 1000), some (.int x1), some (.int x2), none, none, none, none, none, none, none, none] [] (S, M, O) (.inl (some (.long r))) (S, M', O) := by
  intro x1 x2 M r M' hF
  unfold F_m_divided at hF
  refine Ex_go 4 (pc' := 6) (L' := [some (.ref 1000), some (.int x1), some (.int x2), none, none, none, none, none, none, none, none]) (st' := [.int x1]) (σ' := (S, (si M 1001 (0 : Int32)), O)) (rfl) ?_
  obtain ⟨r1, hx2, hF⟩ := b1_i hF
  refine Ex_call (kind := 0) (y := 203) (as := [.int x1]) (rest := []) (L0 := [some (.int x1)]) (d' := 2) (v := some (.int r1)) (σ1 := (S, (si M 1001 (0 : Int32)), O)) rfl rfl mt_203 rfl rfl (by omega) (X_m_isSmall (Nat.le_refl _) _ _ hx2) (Ex_st (st2 := [.int r1]) rfl ?_)
  refine Ex_go 1 (pc' := if ¬ r1 = 0 then 19 else 12) (L' := [some (.ref 1000), some (.int x1), some (.int x2), none, none, none, none, none, none, none, none]) (st' := []) (σ' := (S, (si M 1001 (0 : Int32)), O)) (rfl) ?_
  refine Ex_brN (fun hc => ?_) (fun hc => ?_)
  · rw [if_pos hc] at hF
    refine Ex_go 2 (pc' := 14) (L' := [some (.ref 1000), some (.int x1), some (.int x2), none, none, none, none, none, none, none, none]) (st' := [.int (2 : Int32), .ref 1000]) (σ' := (S, (si M 1001 (0 : Int32)), O)) (rfl) ?_
    obtain ⟨r6, M8, hx7, hF⟩ := b2_i hF
    refine Ex_call (kind := 2) (y := 50) (as := [.ref 1000, .int (2 : Int32)]) (rest := []) (L0 := [some (.ref 1000), some (.int (2 : Int32))]) (d' := 1) (v := some (.int r6)) (σ1 := (S, M8, O)) rfl rfl mt_50 rfl rfl (by omega) (X_m_fail (Nat.le_refl _) _ _ _ _ hx7) (Ex_st (st2 := [.int r6]) rfl ?_)
    refine Ex_go 1 (pc' := 18) (L' := [some (.ref 1000), some (.int x1), some (.int x2), none, none, none, none, none, none, none, none]) (st' := [.long (Int32.toInt64 r6)]) (σ' := (S, M8, O)) (rfl) ?_
    cases hF
    exact Ex_fin rfl
  · rw [if_neg hc] at hF
    refine Ex_go 2 (pc' := 21) (L' := [some (.ref 1000), some (.int x1), some (.int x2), none, none, none, none, none, none, none, none]) (st' := [.int x1, .ref 1000]) (σ' := (S, (si M 1001 (0 : Int32)), O)) (rfl) ?_
    obtain ⟨r3, M5, hx4, hF⟩ := b2_i hF
    refine Ex_call (kind := 2) (y := 204) (as := [.ref 1000, .int x1]) (rest := []) (L0 := [some (.ref 1000), some (.int x1), none, none]) (d' := 1) (v := none) (σ1 := (S, M5, O)) rfl rfl mt_204 rfl rfl (by omega) (X_m_tellParts (Nat.le_refl _) _ _ _ _ hx4) (Ex_st (st2 := []) rfl ?_)
    refine Ex_go 6 (pc' := 32) (L' := [some (.ref 1000), some (.int x1), some (.int x2), some (.long (1 : Int64)), none, some (.long (1 : Int64)), none, some (.int (0 : Int32)), none, none, none]) (st' := []) (σ' := (S, M5, O)) (rfl) ?_
    exact Ex_mono (L := [some (.ref 1000), some (.int x1), some (.int x2), some (.long (1 : Int64)), none, some (.long (1 : Int64)), none, some (.int (0 : Int32)), none, none, none]) (Le_s (Le_s (Le_s (Le_s (Le_n (Le_s (Le_n (Le_s (Le_n (Le_n (Le_n (Le_0)))))))))))) (X_m_divided_32 hd FU _ _ _ _ _ _ _ _ hF) (Nat.le_refl _) (by omega)
def F_w_parts (x1 : Int32) (x2 : Int32) (x3 : Int32) (S : Sto) : Option ((Int32 ⊕ Nat) × Sto) := b1 (F_w_isDivided x1) (fun r1 => if r1 = 0 then some ((.inr 0), S) else b2 (F_Pa_take x1 S) (fun r3 S5 => if x2 = (-1 : Int32) then some ((.inl (gi S5 47)), S5) else b1 (F_Pa_has x2 S5) (fun r6 => if r6 = 0 then some ((.inr 1), S5) else if x3 = 0 then b1 (F_Pa_factor x2 S5) (fun r8 => some ((.inl r8), S5)) else b1 (F_Pa_times x2 S5) (fun r10 => some ((.inl r10), S5)))))
set_option maxRecDepth 100000 in
theorem X_w_parts {nL : Nat} {xs : Nat → Int32} {M : Sto} {O : Sto} {d : Nat} (hd : 8 ≤ d) : ∀ (x1 : Int32) (x2 : Int32) (x3 : Int32) (S : Sto) (r : Int32 ⊕ Nat) (S' : Sto), F_w_parts x1 x2 x3 S = some (r, S') → EX nL xs 1 MI_201 d 0 [some (.ref 0), some (.int x1), some (.int x2), some (.int x3)] [] (S, M, O) (rsI r) (S', M, O) := by
  intro x1 x2 x3 S r S' hF
  unfold F_w_parts at hF
  refine Ex_go 1 (pc' := 1) (L' := [some (.ref 0), some (.int x1), some (.int x2), some (.int x3)]) (st' := [.int x1]) (σ' := (S, M, O)) (rfl) ?_
  obtain ⟨r1, hx2, hF⟩ := b1_i hF
  refine Ex_callK (K1 := 0) (K2 := 1) (kind := 0) (y := 195) (as := [.int x1]) (rest := []) (L0 := [some (.int x1)]) (d' := 1) (v := some (.int r1)) (σ1 := (S, M, O)) rfl rfl mt_195 rfl rfl (by omega) (X_w_isDivided (Nat.le_refl _) _ _ hx2) (Ex_st (st2 := [.int r1]) rfl ?_) (by omega)
  refine Ex_go 1 (pc' := if ¬ r1 = 0 then 15 else 7) (L' := [some (.ref 0), some (.int x1), some (.int x2), some (.int x3)]) (st' := []) (σ' := (S, M, O)) (rfl) ?_
  refine Ex_brN (fun hc => ?_) (fun hc => ?_)
  · rw [if_pos hc] at hF
    cases hF
    exact Ex_thr rfl (by omega) (Nat.le_refl _)
  · rw [if_neg hc] at hF
    refine Ex_go 3 (pc' := 20) (L' := [some (.ref 0), some (.int x1), some (.int x2), some (.int x3)]) (st' := [.int x1, .ref 50]) (σ' := (S, M, O)) (rfl) ?_
    obtain ⟨r3, S5, hx4, hF⟩ := b2_i hF
    refine Ex_callK (K1 := 0) (K2 := 1) (kind := 2) (y := 197) (as := [.ref 50, .int x1]) (rest := []) (L0 := [some (.ref 50), some (.int x1), none, none, none]) (d' := 2) (v := none) (σ1 := (S5, M, O)) rfl rfl mt_197 rfl rfl (by omega) (X_Pa_take (Nat.le_refl _) _ _ _ _ hx4) (Ex_st (st2 := []) rfl ?_) (by omega)
    refine Ex_go 3 (pc' := if ¬ x2 = (-1 : Int32) then 36 else 28) (L' := [some (.ref 0), some (.int x1), some (.int x2), some (.int x3)]) (st' := []) (σ' := (S5, M, O)) (rfl) ?_
    refine Ex_brN (fun hc => ?_) (fun hc => ?_)
    · rw [if_pos hc] at hF
      refine Ex_go 3 (pc' := 35) (L' := [some (.ref 0), some (.int x1), some (.int x2), some (.int x3)]) (st' := [.int (gi S5 47)]) (σ' := (S5, M, O)) (rfl) ?_
      cases hF
      exact Ex_fin rfl
    · rw [if_neg hc] at hF
      refine Ex_go 3 (pc' := 41) (L' := [some (.ref 0), some (.int x1), some (.int x2), some (.int x3)]) (st' := [.int x2, .ref 50]) (σ' := (S5, M, O)) (rfl) ?_
      obtain ⟨r6, hx7, hF⟩ := b1_i hF
      refine Ex_callK (K1 := 0) (K2 := 1) (kind := 2) (y := 198) (as := [.ref 50, .int x2]) (rest := []) (L0 := [some (.ref 50), some (.int x2)]) (d' := 1) (v := some (.int r6)) (σ1 := (S5, M, O)) rfl rfl mt_198 rfl rfl (by omega) (X_Pa_has (Nat.le_refl _) _ _ _ hx7) (Ex_st (st2 := [.int r6]) rfl ?_) (by omega)
      refine Ex_go 1 (pc' := if ¬ r6 = 0 then 55 else 47) (L' := [some (.ref 0), some (.int x1), some (.int x2), some (.int x3)]) (st' := []) (σ' := (S5, M, O)) (rfl) ?_
      refine Ex_brN (fun hc => ?_) (fun hc => ?_)
      · rw [if_pos hc] at hF
        cases hF
        exact Ex_thr rfl (by omega) (Nat.le_refl _)
      · rw [if_neg hc] at hF
        refine Ex_go 2 (pc' := if x3 = 0 then 70 else 59) (L' := [some (.ref 0), some (.int x1), some (.int x2), some (.int x3)]) (st' := []) (σ' := (S5, M, O)) (rfl) ?_
        refine Ex_br (fun hc => ?_) (fun hc => ?_)
        · rw [if_pos hc] at hF
          refine Ex_go 3 (pc' := 75) (L' := [some (.ref 0), some (.int x1), some (.int x2), some (.int x3)]) (st' := [.int x2, .ref 50]) (σ' := (S5, M, O)) (rfl) ?_
          obtain ⟨r8, hx9, hF⟩ := b1_i hF
          refine Ex_callK (K1 := 0) (K2 := 1) (kind := 2) (y := 200) (as := [.ref 50, .int x2]) (rest := []) (L0 := [some (.ref 50), some (.int x2)]) (d' := 2) (v := some (.int r8)) (σ1 := (S5, M, O)) rfl rfl mt_200 rfl rfl (by omega) (X_Pa_factor (Nat.le_refl _) _ _ _ hx9) (Ex_st (st2 := [.int r8]) rfl ?_) (by omega)
          cases hF
          exact Ex_fin rfl
        · rw [if_neg hc] at hF
          refine Ex_go 3 (pc' := 64) (L' := [some (.ref 0), some (.int x1), some (.int x2), some (.int x3)]) (st' := [.int x2, .ref 50]) (σ' := (S5, M, O)) (rfl) ?_
          obtain ⟨r10, hx11, hF⟩ := b1_i hF
          refine Ex_callK (K1 := 0) (K2 := 1) (kind := 2) (y := 199) (as := [.ref 50, .int x2]) (rest := []) (L0 := [some (.ref 50), some (.int x2)]) (d' := 2) (v := some (.int r10)) (σ1 := (S5, M, O)) rfl rfl mt_199 rfl rfl (by omega) (X_Pa_times (Nat.le_refl _) _ _ _ hx11) (Ex_st (st2 := [.int r10]) rfl ?_) (by omega)
          refine Ex_go 1 (pc' := 78) (L' := [some (.ref 0), some (.int x1), some (.int x2), some (.int x3)]) (st' := [.int r10]) (σ' := (S5, M, O)) (rfl) ?_
          cases hF
          exact Ex_fin rfl
def F_l_parts (x1 : Int32) (x2 : Int32) (x3 : Int32) (S : Sto) (O : Sto) : Option (Int32 × Sto × Sto) := b2 (F_w_parts x1 x2 x3 S) (fun r1 S3 => su r1 (fun v4 => some ((0 : Int32), S3, (ul O 2000 (vp_updL (al O 2000) (Int32.toNatClampNeg (0 : Int32)) (Int32.toInt64 v4))))) (fun z5 => if z5 = 0 then some ((2 : Int32), S3, O) else (if z5 = 1 then some ((1 : Int32), S3, O) else (none))))
set_option maxRecDepth 100000 in
theorem X_l_parts {nL : Nat} {xs : Nat → Int32} {M : Sto} {d : Nat} (hd : 9 ≤ d) : ∀ (x1 : Int32) (x2 : Int32) (x3 : Int32) (S : Sto) (O : Sto) (r : Int32) (S' : Sto) (O' : Sto), F_l_parts x1 x2 x3 S O = some (r, S', O') → EX nL xs 1 MI_202 d 0 [some (.ref 0), some (.int x1), some (.int x2), some (.int x3), some (.ref 2000), none] [] (S, M, O) (.inl (some (.int r))) (S', M, O') := by
  intro x1 x2 x3 S O r S' O' hF
  unfold F_l_parts at hF
  refine Ex_go 6 (pc' := 7) (L' := [some (.ref 0), some (.int x1), some (.int x2), some (.int x3), some (.ref 2000), none]) (st' := [.int x3, .int x2, .int x1, .ref 0, .int (0 : Int32), .ref 2000]) (σ' := (S, M, O)) (rfl) ?_
  obtain ⟨r1, S3, hx2, hF⟩ := b2_i hF
  cases r1 with
  | inl v4 =>
    rw [su_l] at hF
    refine Ex_callK (K1 := 1) (K2 := 0) (kind := 3) (y := 201) (as := [.ref 0, .int x1, .int x2, .int x3]) (rest := [.int (0 : Int32), .ref 2000]) (L0 := [some (.ref 0), some (.int x1), some (.int x2), some (.int x3)]) (d' := 8) (v := some (.int v4)) (σ1 := (S3, M, O)) rfl rfl mt_201 rfl rfl (by omega) (X_w_parts (Nat.le_refl _) _ _ _ _ _ _ hx2) (Ex_st (st2 := [.int v4, .int (0 : Int32), .ref 2000]) rfl ?_) (by omega)
    refine Ex_go 1 (pc' := 11) (L' := [some (.ref 0), some (.int x1), some (.int x2), some (.int x3), some (.ref 2000), none]) (st' := [.long (Int32.toInt64 v4), .int (0 : Int32), .ref 2000]) (σ' := (S3, M, O)) (rfl) ?_
    refine Ex_chk (b := ib (0 : Int32) 1) (pc' := 12) (L' := [some (.ref 0), some (.int x1), some (.int x2), some (.int x3), some (.ref 2000), none]) (st' := []) (σ' := (S3, M, (ul O 2000 (vp_updL (al O 2000) (Int32.toNatClampNeg (0 : Int32)) (Int32.toInt64 v4))))) rfl (by decide) ?_
    refine Ex_go 2 (pc' := 24) (L' := [some (.ref 0), some (.int x1), some (.int x2), some (.int x3), some (.ref 2000), none]) (st' := [.int (0 : Int32)]) (σ' := (S3, M, (ul O 2000 (vp_updL (al O 2000) (Int32.toNatClampNeg (0 : Int32)) (Int32.toInt64 v4))))) (rfl) ?_
    cases hF
    exact Ex_fin rfl
  | inr z5 =>
    by_cases hz0 : z5 = 0
    · have hF : (if z5 = 0 then _ else _) = _ := hF
      rw [if_pos hz0] at hF
      subst hz0
      refine Ex_callX (K1 := 1) (K2 := 0) (y := 201) (as := [.ref 0, .int x1, .int x2, .int x3]) (rest := [.int (0 : Int32), .ref 2000]) (L0 := [some (.ref 0), some (.int x1), some (.int x2), some (.int x3)]) (d' := 8) (σ1 := (S3, M, O)) (x := 0) (pc' := 21) (i := 5) rfl rfl mt_201 rfl rfl (by omega) (X_w_parts (Nat.le_refl _) _ _ _ _ _ _ hx2) rfl (Ex_L (L2 := [some (.ref 0), some (.int x1), some (.int x2), some (.int x3), some (.ref 2000), none]) rfl ?_) (by omega)
      refine Ex_go 1 (pc' := 22) (L' := [some (.ref 0), some (.int x1), some (.int x2), some (.int x3), some (.ref 2000), none]) (st' := [.int (2 : Int32)]) (σ' := (S3, M, O)) (rfl) ?_
      cases hF
      exact Ex_fin rfl
    have hF : (if z5 = 0 then _ else _) = _ := hF
    rw [if_neg hz0] at hF
    by_cases hz1 : z5 = 1
    · have hF : (if z5 = 1 then _ else _) = _ := hF
      rw [if_pos hz1] at hF
      subst hz1
      refine Ex_callX (K1 := 1) (K2 := 0) (y := 201) (as := [.ref 0, .int x1, .int x2, .int x3]) (rest := [.int (0 : Int32), .ref 2000]) (L0 := [some (.ref 0), some (.int x1), some (.int x2), some (.int x3)]) (d' := 8) (σ1 := (S3, M, O)) (x := 1) (pc' := 17) (i := 5) rfl rfl mt_201 rfl rfl (by omega) (X_w_parts (Nat.le_refl _) _ _ _ _ _ _ hx2) rfl (Ex_L (L2 := [some (.ref 0), some (.int x1), some (.int x2), some (.int x3), some (.ref 2000), none]) rfl ?_) (by omega)
      refine Ex_go 1 (pc' := 18) (L' := [some (.ref 0), some (.int x1), some (.int x2), some (.int x3), some (.ref 2000), none]) (st' := [.int (1 : Int32)]) (σ' := (S3, M, O)) (rfl) ?_
      cases hF
      exact Ex_fin rfl
    have hF : (if z5 = 1 then _ else _) = _ := hF
    rw [if_neg hz1] at hF
    cases hF
def F_m_parts (x1 : Int32) (x2 : Int32) (x3 : Int32) (M : Sto) : Option (Int32 × Sto) := b1 (F_m_isSmall x1) (fun r1 => if r1 = 0 then b2 (F_m_fail (2 : Int32) (si M 1001 (0 : Int32))) (fun r13 M15 => some (r13, M15)) else b2 (F_m_tellParts x1 (si M 1001 (0 : Int32))) (fun r3 M5 => if x2 = (-1 : Int32) then some ((gi M5 1027), M5) else b1 (F_m_isIn (Int32.toInt64 x2) (0 : Int64) (Int32.toInt64 ((gi M5 1027) - (1 : Int32)))) (fun r6 => if r6 = 0 then b2 (F_m_fail (1 : Int32) M5) (fun r8 M10 => some (r8, M10)) else if x3 = 0 then ck (ib x2 10) (some ((ai M5 1020 (Int32.toNatClampNeg x2)), M5)) else ck (ib x2 10) (some ((ai M5 1021 (Int32.toNatClampNeg x2)), M5)))))
set_option maxRecDepth 100000 in
theorem X_m_parts {nL : Nat} {xs : Nat → Int32} {S : Sto} {O : Sto} {d : Nat} (hd : 3 ≤ d) : ∀ (x1 : Int32) (x2 : Int32) (x3 : Int32) (M : Sto) (r : Int32) (M' : Sto), F_m_parts x1 x2 x3 M = some (r, M') → EX nL xs 0 MI_205 d 0 [some (.ref 1000), some (.int x1), some (.int x2), some (.int x3)] [] (S, M, O) (.inl (some (.int r))) (S, M', O) := by
  intro x1 x2 x3 M r M' hF
  unfold F_m_parts at hF
  refine Ex_go 4 (pc' := 6) (L' := [some (.ref 1000), some (.int x1), some (.int x2), some (.int x3)]) (st' := [.int x1]) (σ' := (S, (si M 1001 (0 : Int32)), O)) (rfl) ?_
  obtain ⟨r1, hx2, hF⟩ := b1_i hF
  refine Ex_call (kind := 0) (y := 203) (as := [.int x1]) (rest := []) (L0 := [some (.int x1)]) (d' := 2) (v := some (.int r1)) (σ1 := (S, (si M 1001 (0 : Int32)), O)) rfl rfl mt_203 rfl rfl (by omega) (X_m_isSmall (Nat.le_refl _) _ _ hx2) (Ex_st (st2 := [.int r1]) rfl ?_)
  refine Ex_go 1 (pc' := if ¬ r1 = 0 then 18 else 12) (L' := [some (.ref 1000), some (.int x1), some (.int x2), some (.int x3)]) (st' := []) (σ' := (S, (si M 1001 (0 : Int32)), O)) (rfl) ?_
  refine Ex_brN (fun hc => ?_) (fun hc => ?_)
  · rw [if_pos hc] at hF
    refine Ex_go 2 (pc' := 14) (L' := [some (.ref 1000), some (.int x1), some (.int x2), some (.int x3)]) (st' := [.int (2 : Int32), .ref 1000]) (σ' := (S, (si M 1001 (0 : Int32)), O)) (rfl) ?_
    obtain ⟨r13, M15, hx14, hF⟩ := b2_i hF
    refine Ex_call (kind := 2) (y := 50) (as := [.ref 1000, .int (2 : Int32)]) (rest := []) (L0 := [some (.ref 1000), some (.int (2 : Int32))]) (d' := 1) (v := some (.int r13)) (σ1 := (S, M15, O)) rfl rfl mt_50 rfl rfl (by omega) (X_m_fail (Nat.le_refl _) _ _ _ _ hx14) (Ex_st (st2 := [.int r13]) rfl ?_)
    cases hF
    exact Ex_fin rfl
  · rw [if_neg hc] at hF
    refine Ex_go 2 (pc' := 20) (L' := [some (.ref 1000), some (.int x1), some (.int x2), some (.int x3)]) (st' := [.int x1, .ref 1000]) (σ' := (S, (si M 1001 (0 : Int32)), O)) (rfl) ?_
    obtain ⟨r3, M5, hx4, hF⟩ := b2_i hF
    refine Ex_call (kind := 2) (y := 204) (as := [.ref 1000, .int x1]) (rest := []) (L0 := [some (.ref 1000), some (.int x1), none, none]) (d' := 1) (v := none) (σ1 := (S, M5, O)) rfl rfl mt_204 rfl rfl (by omega) (X_m_tellParts (Nat.le_refl _) _ _ _ _ hx4) (Ex_st (st2 := []) rfl ?_)
    refine Ex_go 3 (pc' := if ¬ x2 = (-1 : Int32) then 33 else 28) (L' := [some (.ref 1000), some (.int x1), some (.int x2), some (.int x3)]) (st' := []) (σ' := (S, M5, O)) (rfl) ?_
    refine Ex_brN (fun hc => ?_) (fun hc => ?_)
    · rw [if_pos hc] at hF
      refine Ex_go 2 (pc' := 32) (L' := [some (.ref 1000), some (.int x1), some (.int x2), some (.int x3)]) (st' := [.int (gi M5 1027)]) (σ' := (S, M5, O)) (rfl) ?_
      cases hF
      exact Ex_fin rfl
    · rw [if_neg hc] at hF
      refine Ex_go 8 (pc' := 43) (L' := [some (.ref 1000), some (.int x1), some (.int x2), some (.int x3)]) (st' := [.long (Int32.toInt64 ((gi M5 1027) - (1 : Int32))), .long (0 : Int64), .long (Int32.toInt64 x2)]) (σ' := (S, M5, O)) (rfl) ?_
      obtain ⟨r6, hx7, hF⟩ := b1_i hF
      refine Ex_call (kind := 0) (y := 91) (as := [.long (Int32.toInt64 x2), .long (0 : Int64), .long (Int32.toInt64 ((gi M5 1027) - (1 : Int32)))]) (rest := []) (L0 := [some (.long (Int32.toInt64 x2)), none, some (.long (0 : Int64)), none, some (.long (Int32.toInt64 ((gi M5 1027) - (1 : Int32)))), none]) (d' := 1) (v := some (.int r6)) (σ1 := (S, M5, O)) rfl rfl mt_91 rfl rfl (by omega) (X_m_isIn (Nat.le_refl _) _ _ _ _ hx7) (Ex_st (st2 := [.int r6]) rfl ?_)
      refine Ex_go 1 (pc' := if r6 = 0 then 71 else 49) (L' := [some (.ref 1000), some (.int x1), some (.int x2), some (.int x3)]) (st' := []) (σ' := (S, M5, O)) (rfl) ?_
      refine Ex_br (fun hc => ?_) (fun hc => ?_)
      · rw [if_pos hc] at hF
        refine Ex_go 2 (pc' := 73) (L' := [some (.ref 1000), some (.int x1), some (.int x2), some (.int x3)]) (st' := [.int (1 : Int32), .ref 1000]) (σ' := (S, M5, O)) (rfl) ?_
        obtain ⟨r8, M10, hx9, hF⟩ := b2_i hF
        refine Ex_call (kind := 2) (y := 50) (as := [.ref 1000, .int (1 : Int32)]) (rest := []) (L0 := [some (.ref 1000), some (.int (1 : Int32))]) (d' := 1) (v := some (.int r8)) (σ1 := (S, M10, O)) rfl rfl mt_50 rfl rfl (by omega) (X_m_fail (Nat.le_refl _) _ _ _ _ hx9) (Ex_st (st2 := [.int r8]) rfl ?_)
        cases hF
        exact Ex_fin rfl
      · rw [if_neg hc] at hF
        refine Ex_go 2 (pc' := if x3 = 0 then 62 else 53) (L' := [some (.ref 1000), some (.int x1), some (.int x2), some (.int x3)]) (st' := []) (σ' := (S, M5, O)) (rfl) ?_
        refine Ex_br (fun hc => ?_) (fun hc => ?_)
        · rw [if_pos hc] at hF
          refine Ex_go 3 (pc' := 67) (L' := [some (.ref 1000), some (.int x1), some (.int x2), some (.int x3)]) (st' := [.int x2, .ref 1020]) (σ' := (S, M5, O)) (rfl) ?_
          obtain ⟨hc11, hF⟩ := ck_i hF
          refine Ex_chk (b := ib x2 10) (pc' := 68) (L' := [some (.ref 1000), some (.int x1), some (.int x2), some (.int x3)]) (st' := [.int (ai M5 1020 (Int32.toNatClampNeg x2))]) (σ' := (S, M5, O)) rfl hc11 ?_
          refine Ex_go 1 (pc' := 76) (L' := [some (.ref 1000), some (.int x1), some (.int x2), some (.int x3)]) (st' := [.int (ai M5 1020 (Int32.toNatClampNeg x2))]) (σ' := (S, M5, O)) (rfl) ?_
          cases hF
          exact Ex_fin rfl
        · rw [if_neg hc] at hF
          refine Ex_go 3 (pc' := 58) (L' := [some (.ref 1000), some (.int x1), some (.int x2), some (.int x3)]) (st' := [.int x2, .ref 1021]) (σ' := (S, M5, O)) (rfl) ?_
          obtain ⟨hc12, hF⟩ := ck_i hF
          refine Ex_chk (b := ib x2 10) (pc' := 59) (L' := [some (.ref 1000), some (.int x1), some (.int x2), some (.int x3)]) (st' := [.int (ai M5 1021 (Int32.toNatClampNeg x2))]) (σ' := (S, M5, O)) rfl hc12 ?_
          refine Ex_go 1 (pc' := 76) (L' := [some (.ref 1000), some (.int x1), some (.int x2), some (.int x3)]) (st' := [.int (ai M5 1021 (Int32.toNatClampNeg x2))]) (σ' := (S, M5, O)) (rfl) ?_
          cases hF
          exact Ex_fin rfl
def F_Fi_haulsBy_100 (rc : Int64 → Int32 → Int32 → Sto → Option (Int32 × Sto)) (x11 : Int32) (S : Sto) : Option (Int32 × Sto) := some ((mnI (99 : Int32) (x11 + (1 : Int32))), S)
set_option maxRecDepth 100000 in
theorem X_Fi_haulsBy_100 {nL : Nat} {xs : Nat → Int32} {M : Sto} {O : Sto} {rc : Int64 → Int32 → Int32 → Sto → Option (Int32 × Sto)} {E d : Nat} (hE : 6 ≤ E) (hd : E + 1 ≤ d) (hrc : ∀ (x1 : Int64) (x3 : Int32) (x4 : Int32) (S : Sto) (r : Int32) (S' : Sto), rc x1 x3 x4 S = some (r, S') → EX nL xs 0 MI_187 E 0 [some (.ref 47), some (.long x1), none, some (.int x3), some (.int x4), none, none, none] [] (S, M, O) (.inl (some (.int r))) (S', M, O)) : ∀ (x11 : Int32) (S : Sto) (r : Int32) (S' : Sto), F_Fi_haulsBy_100 rc x11 S = some (r, S') → EX nL xs 0 MI_186 d 100 [none, none, none, none, none, none, none, none, none, none, none, some (.int x11)] [] (S, M, O) (.inl (some (.int r))) (S', M, O) := by
  intro x11 S r S' hF
  unfold F_Fi_haulsBy_100 at hF
  refine Ex_go 4 (pc' := 106) (L' := [none, none, none, none, none, none, none, none, none, none, none, some (.int x11)]) (st' := [.int (x11 + (1 : Int32)), .int (99 : Int32)]) (σ' := (S, M, O)) (rfl) ?_
  refine Ex_blt (kind := 10) (y := 0) (as := [.int (99 : Int32), .int (x11 + (1 : Int32))]) (rest := []) (v := .int (mnI (99 : Int32) (x11 + (1 : Int32)))) rfl rfl (by omega) ?_
  cases hF
  exact Ex_fin rfl
def F_Fi_haulsBy (rc : Int64 → Int32 → Int32 → Sto → Option (Int32 × Sto)) (x1 : Int32) (x2 : Int32) (x3 : Int64) (x5 : Int32) (x6 : Int32) (S : Sto) : Option (Int32 × Sto) := if x1 < 0 then some ((99 : Int32), S) else if x1 < (8 : Int32) then ck (ib x1 8) (ck (ib x1 8) (if (x3 &&& (al S 48 (Int32.toNatClampNeg x1))) = (0 : Int64) then some ((99 : Int32), S) else if (x3 &&& ((al S 48 (Int32.toNatClampNeg x1)) ^^^ (-1 : Int64))) = (0 : Int64) then some ((99 : Int32), S) else b2 (rc (x3 &&& (al S 48 (Int32.toNatClampNeg x1))) (x5 + x2) (x6 + (1 : Int32)) S) (fun r3 S5 => if (99 : Int32) ≤ r3 then F_Fi_haulsBy_100 rc r3 S5 else b2 (rc (x3 &&& ((al S 48 (Int32.toNatClampNeg x1)) ^^^ (-1 : Int64))) (x5 + ((2 : Int32) * x2)) (x6 + (1 : Int32)) S5) (fun r6 S8 => F_Fi_haulsBy_100 rc (mxI r3 r6) S8)))) else some ((99 : Int32), S)
set_option maxRecDepth 100000 in
theorem X_Fi_haulsBy {nL : Nat} {xs : Nat → Int32} {M : Sto} {O : Sto} {rc : Int64 → Int32 → Int32 → Sto → Option (Int32 × Sto)} {E d : Nat} (hE : 6 ≤ E) (hd : E + 1 ≤ d) (hrc : ∀ (x1 : Int64) (x3 : Int32) (x4 : Int32) (S : Sto) (r : Int32) (S' : Sto), rc x1 x3 x4 S = some (r, S') → EX nL xs 0 MI_187 E 0 [some (.ref 47), some (.long x1), none, some (.int x3), some (.int x4), none, none, none] [] (S, M, O) (.inl (some (.int r))) (S', M, O)) : ∀ (x1 : Int32) (x2 : Int32) (x3 : Int64) (x5 : Int32) (x6 : Int32) (S : Sto) (r : Int32) (S' : Sto), F_Fi_haulsBy rc x1 x2 x3 x5 x6 S = some (r, S') → EX nL xs 0 MI_186 d 0 [some (.ref 47), some (.int x1), some (.int x2), some (.long x3), none, some (.int x5), some (.int x6), none, none, none, none, none] [] (S, M, O) (.inl (some (.int r))) (S', M, O) := by
  intro x1 x2 x3 x5 x6 S r S' hF
  unfold F_Fi_haulsBy at hF
  refine Ex_go 2 (pc' := if x1 < 0 then 10 else 4) (L' := [some (.ref 47), some (.int x1), some (.int x2), some (.long x3), none, some (.int x5), some (.int x6), none, none, none, none, none]) (st' := []) (σ' := (S, M, O)) (rfl) ?_
  refine Ex_br (fun hc => ?_) (fun hc => ?_)
  · rw [if_pos hc] at hF
    refine Ex_go 1 (pc' := 12) (L' := [some (.ref 47), some (.int x1), some (.int x2), some (.long x3), none, some (.int x5), some (.int x6), none, none, none, none, none]) (st' := [.int (99 : Int32)]) (σ' := (S, M, O)) (rfl) ?_
    cases hF
    exact Ex_fin rfl
  · rw [if_neg hc] at hF
    refine Ex_go 3 (pc' := if x1 < (8 : Int32) then 13 else 10) (L' := [some (.ref 47), some (.int x1), some (.int x2), some (.long x3), none, some (.int x5), some (.int x6), none, none, none, none, none]) (st' := []) (σ' := (S, M, O)) (rfl) ?_
    refine Ex_br (fun hc => ?_) (fun hc => ?_)
    · rw [if_pos hc] at hF
      refine Ex_go 4 (pc' := 19) (L' := [some (.ref 47), some (.int x1), some (.int x2), some (.long x3), none, some (.int x5), some (.int x6), none, none, none, none, none]) (st' := [.int x1, .ref 48, .long x3]) (σ' := (S, M, O)) (rfl) ?_
      obtain ⟨hc1, hF⟩ := ck_i hF
      refine Ex_chk (b := ib x1 8) (pc' := 20) (L' := [some (.ref 47), some (.int x1), some (.int x2), some (.long x3), none, some (.int x5), some (.int x6), none, none, none, none, none]) (st' := [.long (al S 48 (Int32.toNatClampNeg x1)), .long x3]) (σ' := (S, M, O)) rfl hc1 ?_
      refine Ex_go 6 (pc' := 29) (L' := [some (.ref 47), some (.int x1), some (.int x2), some (.long x3), none, some (.int x5), some (.int x6), some (.long (x3 &&& (al S 48 (Int32.toNatClampNeg x1)))), none, none, none, none]) (st' := [.int x1, .ref 48, .long x3]) (σ' := (S, M, O)) (rfl) ?_
      obtain ⟨hc2, hF⟩ := ck_i hF
      refine Ex_chk (b := ib x1 8) (pc' := 30) (L' := [some (.ref 47), some (.int x1), some (.int x2), some (.long x3), none, some (.int x5), some (.int x6), some (.long (x3 &&& (al S 48 (Int32.toNatClampNeg x1)))), none, none, none, none]) (st' := [.long (al S 48 (Int32.toNatClampNeg x1)), .long x3]) (σ' := (S, M, O)) rfl hc2 ?_
      refine Ex_go 8 (pc' := if (lg_cmp (x3 &&& (al S 48 (Int32.toNatClampNeg x1))) (0 : Int64)) = 0 then 51 else 44) (L' := [some (.ref 47), some (.int x1), some (.int x2), some (.long x3), none, some (.int x5), some (.int x6), some (.long (x3 &&& (al S 48 (Int32.toNatClampNeg x1)))), none, some (.long (x3 &&& ((al S 48 (Int32.toNatClampNeg x1)) ^^^ (-1 : Int64)))), none, none]) (st' := []) (σ' := (S, M, O)) (rfl) ?_
      refine Ex_brI lc_eq (fun hc => ?_) (fun hc => ?_)
      · rw [if_pos hc] at hF
        refine Ex_go 1 (pc' := 53) (L' := [some (.ref 47), some (.int x1), some (.int x2), some (.long x3), none, some (.int x5), some (.int x6), some (.long (x3 &&& (al S 48 (Int32.toNatClampNeg x1)))), none, some (.long (x3 &&& ((al S 48 (Int32.toNatClampNeg x1)) ^^^ (-1 : Int64)))), none, none]) (st' := [.int (99 : Int32)]) (σ' := (S, M, O)) (rfl) ?_
        cases hF
        exact Ex_fin rfl
      · rw [if_neg hc] at hF
        refine Ex_go 4 (pc' := if ¬ (lg_cmp (x3 &&& ((al S 48 (Int32.toNatClampNeg x1)) ^^^ (-1 : Int64))) (0 : Int64)) = 0 then 54 else 51) (L' := [some (.ref 47), some (.int x1), some (.int x2), some (.long x3), none, some (.int x5), some (.int x6), some (.long (x3 &&& (al S 48 (Int32.toNatClampNeg x1)))), none, some (.long (x3 &&& ((al S 48 (Int32.toNatClampNeg x1)) ^^^ (-1 : Int64)))), none, none]) (st' := []) (σ' := (S, M, O)) (rfl) ?_
        refine Ex_brNI lc_ne (fun hc => ?_) (fun hc => ?_)
        · rw [if_pos hc] at hF
          refine Ex_go 1 (pc' := 53) (L' := [some (.ref 47), some (.int x1), some (.int x2), some (.long x3), none, some (.int x5), some (.int x6), some (.long (x3 &&& (al S 48 (Int32.toNatClampNeg x1)))), none, some (.long (x3 &&& ((al S 48 (Int32.toNatClampNeg x1)) ^^^ (-1 : Int64)))), none, none]) (st' := [.int (99 : Int32)]) (σ' := (S, M, O)) (rfl) ?_
          cases hF
          exact Ex_fin rfl
        · rw [if_neg hc] at hF
          refine Ex_go 8 (pc' := 65) (L' := [some (.ref 47), some (.int x1), some (.int x2), some (.long x3), none, some (.int x5), some (.int x6), some (.long (x3 &&& (al S 48 (Int32.toNatClampNeg x1)))), none, some (.long (x3 &&& ((al S 48 (Int32.toNatClampNeg x1)) ^^^ (-1 : Int64)))), none, none]) (st' := [.int (x6 + (1 : Int32)), .int (x5 + x2), .long (x3 &&& (al S 48 (Int32.toNatClampNeg x1))), .ref 47]) (σ' := (S, M, O)) (rfl) ?_
          obtain ⟨r3, S5, hx4, hF⟩ := b2_i hF
          refine Ex_call (kind := 2) (y := 187) (as := [.ref 47, .long (x3 &&& (al S 48 (Int32.toNatClampNeg x1))), .int (x5 + x2), .int (x6 + (1 : Int32))]) (rest := []) (L0 := [some (.ref 47), some (.long (x3 &&& (al S 48 (Int32.toNatClampNeg x1)))), none, some (.int (x5 + x2)), some (.int (x6 + (1 : Int32))), none, none, none]) (d' := E) (v := some (.int r3)) (σ1 := (S5, M, O)) rfl rfl mt_187 rfl rfl (by omega) (hrc _ _ _ _ _ _ hx4) (Ex_st (st2 := [.int r3]) rfl ?_)
          refine Ex_go 4 (pc' := if (99 : Int32) ≤ r3 then 100 else 77) (L' := [some (.ref 47), some (.int x1), some (.int x2), some (.long x3), none, some (.int x5), some (.int x6), some (.long (x3 &&& (al S 48 (Int32.toNatClampNeg x1)))), none, some (.long (x3 &&& ((al S 48 (Int32.toNatClampNeg x1)) ^^^ (-1 : Int64)))), none, some (.int r3)]) (st' := []) (σ' := (S5, M, O)) (rfl) ?_
          refine Ex_br (fun hc => ?_) (fun hc => ?_)
          · rw [if_pos hc] at hF
            exact Ex_mono (L := [none, none, none, none, none, none, none, none, none, none, none, some (.int r3)]) (Le_n (Le_n (Le_n (Le_n (Le_n (Le_n (Le_n (Le_n (Le_n (Le_n (Le_n (Le_s (Le_0))))))))))))) (X_Fi_haulsBy_100 hE hd hrc _ _ _ _ hF) (Nat.le_refl _) (by omega)
          · rw [if_neg hc] at hF
            refine Ex_go 10 (pc' := 91) (L' := [some (.ref 47), some (.int x1), some (.int x2), some (.long x3), none, some (.int x5), some (.int x6), some (.long (x3 &&& (al S 48 (Int32.toNatClampNeg x1)))), none, some (.long (x3 &&& ((al S 48 (Int32.toNatClampNeg x1)) ^^^ (-1 : Int64)))), none, some (.int r3)]) (st' := [.int (1 : Int32), .int x6, .int (x5 + ((2 : Int32) * x2)), .long (x3 &&& ((al S 48 (Int32.toNatClampNeg x1)) ^^^ (-1 : Int64))), .ref 47, .int r3]) (σ' := (S5, M, O)) (rfl) ?_
            refine Ex_go 1 (pc' := 92) (L' := [some (.ref 47), some (.int x1), some (.int x2), some (.long x3), none, some (.int x5), some (.int x6), some (.long (x3 &&& (al S 48 (Int32.toNatClampNeg x1)))), none, some (.long (x3 &&& ((al S 48 (Int32.toNatClampNeg x1)) ^^^ (-1 : Int64)))), none, some (.int r3)]) (st' := [.int (x6 + (1 : Int32)), .int (x5 + ((2 : Int32) * x2)), .long (x3 &&& ((al S 48 (Int32.toNatClampNeg x1)) ^^^ (-1 : Int64))), .ref 47, .int r3]) (σ' := (S5, M, O)) (rfl) ?_
            obtain ⟨r6, S8, hx7, hF⟩ := b2_i hF
            refine Ex_call (kind := 2) (y := 187) (as := [.ref 47, .long (x3 &&& ((al S 48 (Int32.toNatClampNeg x1)) ^^^ (-1 : Int64))), .int (x5 + ((2 : Int32) * x2)), .int (x6 + (1 : Int32))]) (rest := [.int r3]) (L0 := [some (.ref 47), some (.long (x3 &&& ((al S 48 (Int32.toNatClampNeg x1)) ^^^ (-1 : Int64)))), none, some (.int (x5 + ((2 : Int32) * x2))), some (.int (x6 + (1 : Int32))), none, none, none]) (d' := E) (v := some (.int r6)) (σ1 := (S8, M, O)) rfl rfl mt_187 rfl rfl (by omega) (hrc _ _ _ _ _ _ hx7) (Ex_st (st2 := [.int r6, .int r3]) rfl ?_)
            refine Ex_blt (kind := 9) (y := 0) (as := [.int r3, .int r6]) (rest := []) (v := .int (mxI r3 r6)) rfl rfl (by omega) ?_
            refine Ex_go 1 (pc' := 100) (L' := [some (.ref 47), some (.int x1), some (.int x2), some (.long x3), none, some (.int x5), some (.int x6), some (.long (x3 &&& (al S 48 (Int32.toNatClampNeg x1)))), none, some (.long (x3 &&& ((al S 48 (Int32.toNatClampNeg x1)) ^^^ (-1 : Int64)))), none, some (.int (mxI r3 r6))]) (st' := []) (σ' := (S8, M, O)) (rfl) ?_
            exact Ex_mono (L := [none, none, none, none, none, none, none, none, none, none, none, some (.int (mxI r3 r6))]) (Le_n (Le_n (Le_n (Le_n (Le_n (Le_n (Le_n (Le_n (Le_n (Le_n (Le_n (Le_s (Le_0))))))))))))) (X_Fi_haulsBy_100 hE hd hrc _ _ _ _ hF) (Nat.le_refl _) (by omega)
    · rw [if_neg hc] at hF
      refine Ex_go 1 (pc' := 12) (L' := [some (.ref 47), some (.int x1), some (.int x2), some (.long x3), none, some (.int x5), some (.int x6), none, none, none, none, none]) (st' := [.int (99 : Int32)]) (σ' := (S, M, O)) (rfl) ?_
      cases hF
      exact Ex_fin rfl
def F_Fi_fewestHaulsb_108 (rc : Int64 → Int32 → Int32 → Sto → Option (Int32 × Sto)) (x3 : Int32) (x5 : Int32) (S : Sto) : Option (Int32 × Sto) := ck (ib x3 6561) (some (x5, (ui S 49 (upd (ai S 49) (Int32.toNatClampNeg x3) (x5 + (1 : Int32))))))
set_option maxRecDepth 100000 in
theorem X_Fi_fewestHaulsb_108 {nL : Nat} {xs : Nat → Int32} {M : Sto} {O : Sto} {rc : Int64 → Int32 → Int32 → Sto → Option (Int32 × Sto)} {E d : Nat} (hE : 6 ≤ E) (hd : E + 2 ≤ d) (hrc : ∀ (x1 : Int64) (x3 : Int32) (x4 : Int32) (S : Sto) (r : Int32) (S' : Sto), rc x1 x3 x4 S = some (r, S') → EX nL xs 0 MI_187 E 0 [some (.ref 47), some (.long x1), none, some (.int x3), some (.int x4), none, none, none] [] (S, M, O) (.inl (some (.int r))) (S', M, O)) : ∀ (x3 : Int32) (x5 : Int32) (S : Sto) (r : Int32) (S' : Sto), F_Fi_fewestHaulsb_108 rc x3 x5 S = some (r, S') → EX nL xs 0 MI_187 d 108 [some (.ref 47), none, none, some (.int x3), none, some (.int x5), none, none] [] (S, M, O) (.inl (some (.int r))) (S', M, O) := by
  intro x3 x5 S r S' hF
  unfold F_Fi_fewestHaulsb_108 at hF
  refine Ex_go 6 (pc' := 117) (L' := [some (.ref 47), none, none, some (.int x3), none, some (.int x5), none, none]) (st' := [.int (x5 + (1 : Int32)), .int x3, .ref 49]) (σ' := (S, M, O)) (rfl) ?_
  obtain ⟨hc1, hF⟩ := ck_i hF
  refine Ex_chk (b := ib x3 6561) (pc' := 118) (L' := [some (.ref 47), none, none, some (.int x3), none, some (.int x5), none, none]) (st' := []) (σ' := ((ui S 49 (upd (ai S 49) (Int32.toNatClampNeg x3) (x5 + (1 : Int32)))), M, O)) rfl hc1 ?_
  refine Ex_go 1 (pc' := 120) (L' := [some (.ref 47), none, none, some (.int x3), none, some (.int x5), none, none]) (st' := [.int x5]) (σ' := ((ui S 49 (upd (ai S 49) (Int32.toNatClampNeg x3) (x5 + (1 : Int32)))), M, O)) (rfl) ?_
  cases hF
  exact Ex_fin rfl
def F_Fi_fewestHaulsb_61 (rc : Int64 → Int32 → Int32 → Sto → Option (Int32 × Sto)) : Nat → Int64 → Int32 → Int32 → Int32 → Int32 → Int32 → Sto → Option (Int32 × Sto)
  | 0, _, _, _, _, _, _, _ => none
  | n + 1, x1, x3, x4, x5, x6, x7, S => if (gi S 44) ≤ x7 then F_Fi_fewestHaulsb_108 rc x3 x5 S else if (8 : Int32) ≤ x7 then F_Fi_fewestHaulsb_108 rc x3 x5 S else b2 (F_Fi_haulsBy rc x7 x6 x1 x3 x4 S) (fun r1 S3 => F_Fi_fewestHaulsb_61 rc n x1 x3 x4 (mnI x5 r1) (x6 * (3 : Int32)) (x7 + (1 : Int32)) S3)
set_option maxRecDepth 100000 in
theorem X_Fi_fewestHaulsb_61 {nL : Nat} {xs : Nat → Int32} {M : Sto} {O : Sto} {rc : Int64 → Int32 → Int32 → Sto → Option (Int32 × Sto)} {E d : Nat} (hE : 6 ≤ E) (hd : E + 2 ≤ d) (hrc : ∀ (x1 : Int64) (x3 : Int32) (x4 : Int32) (S : Sto) (r : Int32) (S' : Sto), rc x1 x3 x4 S = some (r, S') → EX nL xs 0 MI_187 E 0 [some (.ref 47), some (.long x1), none, some (.int x3), some (.int x4), none, none, none] [] (S, M, O) (.inl (some (.int r))) (S', M, O)) : ∀ n : Nat, ∀ (x1 : Int64) (x3 : Int32) (x4 : Int32) (x5 : Int32) (x6 : Int32) (x7 : Int32) (S : Sto) (r : Int32) (S' : Sto), F_Fi_fewestHaulsb_61 rc n x1 x3 x4 x5 x6 x7 S = some (r, S') → EX nL xs 0 MI_187 d 61 [some (.ref 47), some (.long x1), none, some (.int x3), some (.int x4), some (.int x5), some (.int x6), some (.int x7)] [] (S, M, O) (.inl (some (.int r))) (S', M, O) := by
  intro n
  induction n with
  | zero => intro x1 x3 x4 x5 x6 x7 S r S' hF; cases hF
  | succ n ih =>
  intro x1 x3 x4 x5 x6 x7 S r S' hF
  unfold F_Fi_fewestHaulsb_61 at hF
  refine Ex_go 4 (pc' := if (gi S 44) ≤ x7 then 108 else 70) (L' := [some (.ref 47), some (.long x1), none, some (.int x3), some (.int x4), some (.int x5), some (.int x6), some (.int x7)]) (st' := []) (σ' := (S, M, O)) (rfl) ?_
  refine Ex_br (fun hc => ?_) (fun hc => ?_)
  · rw [if_pos hc] at hF
    exact Ex_mono (L := [some (.ref 47), none, none, some (.int x3), none, some (.int x5), none, none]) (Le_s (Le_n (Le_n (Le_s (Le_n (Le_s (Le_n (Le_n (Le_0))))))))) (X_Fi_fewestHaulsb_108 hE hd hrc _ _ _ _ _ hF) (Nat.le_refl _) (by omega)
  · rw [if_neg hc] at hF
    refine Ex_go 3 (pc' := if (8 : Int32) ≤ x7 then 108 else 77) (L' := [some (.ref 47), some (.long x1), none, some (.int x3), some (.int x4), some (.int x5), some (.int x6), some (.int x7)]) (st' := []) (σ' := (S, M, O)) (rfl) ?_
    refine Ex_br (fun hc => ?_) (fun hc => ?_)
    · rw [if_pos hc] at hF
      exact Ex_mono (L := [some (.ref 47), none, none, some (.int x3), none, some (.int x5), none, none]) (Le_s (Le_n (Le_n (Le_s (Le_n (Le_s (Le_n (Le_n (Le_0))))))))) (X_Fi_fewestHaulsb_108 hE hd hrc _ _ _ _ _ hF) (Nat.le_refl _) (by omega)
    · rw [if_neg hc] at hF
      refine Ex_go 7 (pc' := 88) (L' := [some (.ref 47), some (.long x1), none, some (.int x3), some (.int x4), some (.int x5), some (.int x6), some (.int x7)]) (st' := [.int x4, .int x3, .long x1, .int x6, .int x7, .ref 47, .int x5]) (σ' := (S, M, O)) (rfl) ?_
      obtain ⟨r1, S3, hx2, hF⟩ := b2_i hF
      refine Ex_call (kind := 2) (y := 186) (as := [.ref 47, .int x7, .int x6, .long x1, .int x3, .int x4]) (rest := [.int x5]) (L0 := [some (.ref 47), some (.int x7), some (.int x6), some (.long x1), none, some (.int x3), some (.int x4), none, none, none, none, none]) (d' := (E + 1)) (v := some (.int r1)) (σ1 := (S3, M, O)) rfl rfl mt_186 rfl rfl (by omega) (X_Fi_haulsBy hE (Nat.le_refl _) hrc _ _ _ _ _ _ _ _ hx2) (Ex_st (st2 := [.int r1, .int x5]) rfl ?_)
      refine Ex_blt (kind := 10) (y := 0) (as := [.int x5, .int r1]) (rest := []) (v := .int (mnI x5 r1)) rfl rfl (by omega) ?_
      refine Ex_go 7 (pc' := 61) (L' := [some (.ref 47), some (.long x1), none, some (.int x3), some (.int x4), some (.int (mnI x5 r1)), some (.int (x6 * (3 : Int32))), some (.int (x7 + (1 : Int32)))]) (st' := []) (σ' := (S3, M, O)) (rfl) ?_
      exact Ex_mono (L := [some (.ref 47), some (.long x1), none, some (.int x3), some (.int x4), some (.int (mnI x5 r1)), some (.int (x6 * (3 : Int32))), some (.int (x7 + (1 : Int32)))]) (Le_s (Le_s (Le_n (Le_s (Le_s (Le_s (Le_s (Le_s (Le_0))))))))) (ih _ _ _ _ _ _ _ _ _ hF) (Nat.le_refl _) (by omega)
def F_Fi_fewestHaulsb (rc : Int64 → Int32 → Int32 → Sto → Option (Int32 × Sto)) (x1 : Int64) (x3 : Int32) (x4 : Int32) (S : Sto) : Option (Int32 × Sto) := if (x1 &&& (x1 - (1 : Int64))) = (0 : Int64) then some ((0 : Int32), S) else if (8 : Int32) ≤ x4 then some ((99 : Int32), S) else if x3 < 0 then some ((99 : Int32), S) else if x3 < (6561 : Int32) then ck (ib x3 6561) (if (ai S 49 (Int32.toNatClampNeg x3)) ≤ 0 then F_Fi_fewestHaulsb_61 rc FU x1 x3 x4 (99 : Int32) (1 : Int32) (0 : Int32) S else ck (ib x3 6561) (some (((ai S 49 (Int32.toNatClampNeg x3)) - (1 : Int32)), S))) else some ((99 : Int32), S)
set_option maxRecDepth 100000 in
theorem X_Fi_fewestHaulsb {nL : Nat} {xs : Nat → Int32} {M : Sto} {O : Sto} {rc : Int64 → Int32 → Int32 → Sto → Option (Int32 × Sto)} {E d : Nat} (hE : 6 ≤ E) (hd : E + 2 ≤ d) (hrc : ∀ (x1 : Int64) (x3 : Int32) (x4 : Int32) (S : Sto) (r : Int32) (S' : Sto), rc x1 x3 x4 S = some (r, S') → EX nL xs 0 MI_187 E 0 [some (.ref 47), some (.long x1), none, some (.int x3), some (.int x4), none, none, none] [] (S, M, O) (.inl (some (.int r))) (S', M, O)) : ∀ (x1 : Int64) (x3 : Int32) (x4 : Int32) (S : Sto) (r : Int32) (S' : Sto), F_Fi_fewestHaulsb rc x1 x3 x4 S = some (r, S') → EX nL xs 0 MI_187 d 0 [some (.ref 47), some (.long x1), none, some (.int x3), some (.int x4), none, none, none] [] (S, M, O) (.inl (some (.int r))) (S', M, O) := by
  intro x1 x3 x4 S r S' hF
  unfold F_Fi_fewestHaulsb at hF
  refine Ex_go 8 (pc' := if ¬ (lg_cmp (x1 &&& (x1 - (1 : Int64))) (0 : Int64)) = 0 then 12 else 10) (L' := [some (.ref 47), some (.long x1), none, some (.int x3), some (.int x4), none, none, none]) (st' := []) (σ' := (S, M, O)) (rfl) ?_
  refine Ex_brNI lc_ne (fun hc => ?_) (fun hc => ?_)
  · rw [if_pos hc] at hF
    refine Ex_go 1 (pc' := 11) (L' := [some (.ref 47), some (.long x1), none, some (.int x3), some (.int x4), none, none, none]) (st' := [.int (0 : Int32)]) (σ' := (S, M, O)) (rfl) ?_
    cases hF
    exact Ex_fin rfl
  · rw [if_neg hc] at hF
    refine Ex_go 3 (pc' := if (8 : Int32) ≤ x4 then 30 else 19) (L' := [some (.ref 47), some (.long x1), none, some (.int x3), some (.int x4), none, none, none]) (st' := []) (σ' := (S, M, O)) (rfl) ?_
    refine Ex_br (fun hc => ?_) (fun hc => ?_)
    · rw [if_pos hc] at hF
      refine Ex_go 1 (pc' := 32) (L' := [some (.ref 47), some (.long x1), none, some (.int x3), some (.int x4), none, none, none]) (st' := [.int (99 : Int32)]) (σ' := (S, M, O)) (rfl) ?_
      cases hF
      exact Ex_fin rfl
    · rw [if_neg hc] at hF
      refine Ex_go 2 (pc' := if x3 < 0 then 30 else 23) (L' := [some (.ref 47), some (.long x1), none, some (.int x3), some (.int x4), none, none, none]) (st' := []) (σ' := (S, M, O)) (rfl) ?_
      refine Ex_br (fun hc => ?_) (fun hc => ?_)
      · rw [if_pos hc] at hF
        refine Ex_go 1 (pc' := 32) (L' := [some (.ref 47), some (.long x1), none, some (.int x3), some (.int x4), none, none, none]) (st' := [.int (99 : Int32)]) (σ' := (S, M, O)) (rfl) ?_
        cases hF
        exact Ex_fin rfl
      · rw [if_neg hc] at hF
        refine Ex_go 3 (pc' := if x3 < (6561 : Int32) then 33 else 30) (L' := [some (.ref 47), some (.long x1), none, some (.int x3), some (.int x4), none, none, none]) (st' := []) (σ' := (S, M, O)) (rfl) ?_
        refine Ex_br (fun hc => ?_) (fun hc => ?_)
        · rw [if_pos hc] at hF
          refine Ex_go 3 (pc' := 38) (L' := [some (.ref 47), some (.long x1), none, some (.int x3), some (.int x4), none, none, none]) (st' := [.int x3, .ref 49]) (σ' := (S, M, O)) (rfl) ?_
          obtain ⟨hc1, hF⟩ := ck_i hF
          refine Ex_chk (b := ib x3 6561) (pc' := 39) (L' := [some (.ref 47), some (.long x1), none, some (.int x3), some (.int x4), none, none, none]) (st' := [.int (ai S 49 (Int32.toNatClampNeg x3))]) (σ' := (S, M, O)) rfl hc1 ?_
          refine Ex_go 1 (pc' := if (ai S 49 (Int32.toNatClampNeg x3)) ≤ 0 then 51 else 42) (L' := [some (.ref 47), some (.long x1), none, some (.int x3), some (.int x4), none, none, none]) (st' := []) (σ' := (S, M, O)) (rfl) ?_
          refine Ex_br (fun hc => ?_) (fun hc => ?_)
          · rw [if_pos hc] at hF
            refine Ex_go 6 (pc' := 61) (L' := [some (.ref 47), some (.long x1), none, some (.int x3), some (.int x4), some (.int (99 : Int32)), some (.int (1 : Int32)), some (.int (0 : Int32))]) (st' := []) (σ' := (S, M, O)) (rfl) ?_
            exact Ex_mono (L := [some (.ref 47), some (.long x1), none, some (.int x3), some (.int x4), some (.int (99 : Int32)), some (.int (1 : Int32)), some (.int (0 : Int32))]) (Le_s (Le_s (Le_n (Le_s (Le_s (Le_s (Le_s (Le_s (Le_0))))))))) (X_Fi_fewestHaulsb_61 hE hd hrc FU _ _ _ _ _ _ _ _ _ hF) (Nat.le_refl _) (by omega)
          · rw [if_neg hc] at hF
            refine Ex_go 3 (pc' := 47) (L' := [some (.ref 47), some (.long x1), none, some (.int x3), some (.int x4), none, none, none]) (st' := [.int x3, .ref 49]) (σ' := (S, M, O)) (rfl) ?_
            obtain ⟨hc2, hF⟩ := ck_i hF
            refine Ex_chk (b := ib x3 6561) (pc' := 48) (L' := [some (.ref 47), some (.long x1), none, some (.int x3), some (.int x4), none, none, none]) (st' := [.int (ai S 49 (Int32.toNatClampNeg x3))]) (σ' := (S, M, O)) rfl hc2 ?_
            refine Ex_go 2 (pc' := 50) (L' := [some (.ref 47), some (.long x1), none, some (.int x3), some (.int x4), none, none, none]) (st' := [.int ((ai S 49 (Int32.toNatClampNeg x3)) - (1 : Int32))]) (σ' := (S, M, O)) (rfl) ?_
            cases hF
            exact Ex_fin rfl
        · rw [if_neg hc] at hF
          refine Ex_go 1 (pc' := 32) (L' := [some (.ref 47), some (.long x1), none, some (.int x3), some (.int x4), none, none, none]) (st' := [.int (99 : Int32)]) (σ' := (S, M, O)) (rfl) ?_
          cases hF
          exact Ex_fin rfl
def F_Fi_fewestHauls : Nat → Int64 → Int32 → Int32 → Sto → Option (Int32 × Sto)
  | 0, _, _, _, _ => none
  | n + 1, x1, x3, x4, S => F_Fi_fewestHaulsb (F_Fi_fewestHauls n) x1 x3 x4 S
set_option maxRecDepth 100000 in
theorem X_Fi_fewestHauls {nL : Nat} {xs : Nat → Int32} {M : Sto} {O : Sto} : ∀ (n : Nat) {d : Nat}, 6 + 2 * n ≤ d → ∀ (x1 : Int64) (x3 : Int32) (x4 : Int32) (S : Sto) (r : Int32) (S' : Sto), F_Fi_fewestHauls n x1 x3 x4 S = some (r, S') → EX nL xs 0 MI_187 d 0 [some (.ref 47), some (.long x1), none, some (.int x3), some (.int x4), none, none, none] [] (S, M, O) (.inl (some (.int r))) (S', M, O) := by
  intro n
  induction n with
  | zero => intro d hd x1 x3 x4 S r S' hF; cases hF
  | succ n ih =>
  intro d hd x1 x3 x4 S r S' hF
  exact X_Fi_fewestHaulsb (E := 6 + 2 * n) (Nat.le_add_right _ _) (by omega) (ih (Nat.le_refl _)) x1 x3 x4 S r S' hF
