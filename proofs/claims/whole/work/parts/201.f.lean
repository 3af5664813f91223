/-! ===== what the methods do, as functions, and that the small machine does it (printed by wip/whole/gen4.py) ===== -/
def F_w_bit (x0 : Int64) (x2 : Int32) : Option Int32 := some (Int64.toInt32 (((Int64.toUInt64 x0 >>> (Int64.toUInt64 (Int32.toInt64 x2) &&& Int64.toUInt64 63)).toInt64) &&& (1 : Int64)))
set_option maxRecDepth 100000 in
theorem X_w_bit {nL : Nat} {xs : Nat → Int32} {S : Sto} {M : Sto} {O : Sto} {d : Nat} (hd : 1 ≤ d) : ∀ (x0 : Int64) (x2 : Int32) (r : Int32), F_w_bit x0 x2 = some r → EX nL xs 0 MI_15 d 0 [some (.long x0), none, some (.int x2)] [] (S, M, O) (.inl (some (.int r))) (S, M, O) := by
  intro x0 x2 r hF
  unfold F_w_bit at hF
  refine Ex_go 6 (pc' := 6) (L' := [some (.long x0), none, some (.int x2)]) (st' := [.int (Int64.toInt32 (((Int64.toUInt64 x0 >>> (Int64.toUInt64 (Int32.toInt64 x2) &&& Int64.toUInt64 63)).toInt64) &&& (1 : Int64)))]) (σ' := (S, M, O)) (rfl) ?_
  cases hF
  exact Ex_fin rfl
def F_Se_has (x1 : Int32) (S : Sto) : Option Int32 := if x1 < 0 then some (0 : Int32) else if (gi S 22) ≤ x1 then some (0 : Int32) else if (8 : Int32) ≤ x1 then some (0 : Int32) else some (1 : Int32)
set_option maxRecDepth 100000 in
theorem X_Se_has {nL : Nat} {xs : Nat → Int32} {M : Sto} {O : Sto} {d : Nat} (hd : 1 ≤ d) : ∀ (x1 : Int32) (S : Sto) (r : Int32), F_Se_has x1 S = some r → EX nL xs 0 MI_87 d 0 [some (.ref 12), some (.int x1)] [] (S, M, O) (.inl (some (.int r))) (S, M, O) := by
  intro x1 S r hF
  unfold F_Se_has at hF
  refine Ex_go 2 (pc' := if x1 < 0 then 22 else 4) (L' := [some (.ref 12), some (.int x1)]) (st' := []) (σ' := (S, M, O)) (rfl) ?_
  refine Ex_br (fun hc => ?_) (fun hc => ?_)
  · rw [if_pos hc] at hF
    refine Ex_go 1 (pc' := 23) (L' := [some (.ref 12), some (.int x1)]) (st' := [.int (0 : Int32)]) (σ' := (S, M, O)) (rfl) ?_
    cases hF
    exact Ex_fin rfl
  · rw [if_neg hc] at hF
    refine Ex_go 4 (pc' := if (gi S 22) ≤ x1 then 22 else 12) (L' := [some (.ref 12), some (.int x1)]) (st' := []) (σ' := (S, M, O)) (rfl) ?_
    refine Ex_br (fun hc => ?_) (fun hc => ?_)
    · rw [if_pos hc] at hF
      refine Ex_go 1 (pc' := 23) (L' := [some (.ref 12), some (.int x1)]) (st' := [.int (0 : Int32)]) (σ' := (S, M, O)) (rfl) ?_
      cases hF
      exact Ex_fin rfl
    · rw [if_neg hc] at hF
      refine Ex_go 3 (pc' := if (8 : Int32) ≤ x1 then 22 else 18) (L' := [some (.ref 12), some (.int x1)]) (st' := []) (σ' := (S, M, O)) (rfl) ?_
      refine Ex_br (fun hc => ?_) (fun hc => ?_)
      · rw [if_pos hc] at hF
        refine Ex_go 1 (pc' := 23) (L' := [some (.ref 12), some (.int x1)]) (st' := [.int (0 : Int32)]) (σ' := (S, M, O)) (rfl) ?_
        cases hF
        exact Ex_fin rfl
      · rw [if_neg hc] at hF
        refine Ex_go 2 (pc' := 23) (L' := [some (.ref 12), some (.int x1)]) (st' := [.int (1 : Int32)]) (σ' := (S, M, O)) (rfl) ?_
        cases hF
        exact Ex_fin rfl
def F_w_days_35 (S : Sto) : Option (Int32 ⊕ Nat) := some (.inr 0)
set_option maxRecDepth 100000 in
theorem X_w_days_35 {nL : Nat} {xs : Nat → Int32} {M : Sto} {O : Sto} {d : Nat} (hd : 8 ≤ d) : ∀ (S : Sto) (r : Int32 ⊕ Nat), F_w_days_35 S = some r → EX nL xs 1 MI_271 d 35 [none, none, none, none, none, none, none, none, none] [] (S, M, O) (rsI r) (S, M, O) := by
  intro S r hF
  unfold F_w_days_35 at hF
  cases hF
  exact Ex_thr rfl (by omega) (Nat.le_refl _)
def F_w_days_156 (k78 : Int32 → Int32 → Int32 → Int32 → Int32 → Int32 → Sto → Option (Int32 ⊕ Nat)) (x2 : Int32) (x3 : Int32) (x4 : Int32) (x5 : Int32) (x6 : Int32) (x7 : Int32) (S : Sto) : Option (Int32 ⊕ Nat) := k78 x2 x3 x4 x5 x6 (x7 + (1 : Int32)) S
set_option maxRecDepth 100000 in
theorem X_w_days_156 {nL : Nat} {xs : Nat → Int32} {M : Sto} {O : Sto} {d : Nat} (hd : 8 ≤ d) {k78 : Int32 → Int32 → Int32 → Int32 → Int32 → Int32 → Sto → Option (Int32 ⊕ Nat)} (hk78 : ∀ (x2 : Int32) (x3 : Int32) (x4 : Int32) (x5 : Int32) (x6 : Int32) (x7 : Int32) (S : Sto) (r : Int32 ⊕ Nat), k78 x2 x3 x4 x5 x6 x7 S = some r → EX nL xs 1 MI_271 d 78 [some (.ref 0), none, some (.int x2), some (.int x3), some (.int x4), some (.int x5), some (.int x6), some (.int x7), none] [] (S, M, O) (rsI r) (S, M, O)) : ∀ (x2 : Int32) (x3 : Int32) (x4 : Int32) (x5 : Int32) (x6 : Int32) (x7 : Int32) (S : Sto) (r : Int32 ⊕ Nat), F_w_days_156 k78 x2 x3 x4 x5 x6 x7 S = some r → EX nL xs 1 MI_271 d 156 [some (.ref 0), none, some (.int x2), some (.int x3), some (.int x4), some (.int x5), some (.int x6), some (.int x7), none] [] (S, M, O) (rsI r) (S, M, O) := by
  intro x2 x3 x4 x5 x6 x7 S r hF
  unfold F_w_days_156 at hF
  refine Ex_go 2 (pc' := 78) (L' := [some (.ref 0), none, some (.int x2), some (.int x3), some (.int x4), some (.int x5), some (.int x6), some (.int (x7 + (1 : Int32))), none]) (st' := []) (σ' := (S, M, O)) (rfl) ?_
  exact Ex_mono (L := [some (.ref 0), none, some (.int x2), some (.int x3), some (.int x4), some (.int x5), some (.int x6), some (.int (x7 + (1 : Int32))), none]) (Le_s (Le_n (Le_s (Le_s (Le_s (Le_s (Le_s (Le_s (Le_n (Le_0)))))))))) (hk78 _ _ _ _ _ _ _ _ hF) (Nat.le_refl _) (by omega)
def F_w_days_153 (k78 : Int32 → Int32 → Int32 → Int32 → Int32 → Int32 → Sto → Option (Int32 ⊕ Nat)) (x2 : Int32) (x3 : Int32) (x4 : Int32) (x5 : Int32) (x6 : Int32) (x7 : Int32) (S : Sto) : Option (Int32 ⊕ Nat) := F_w_days_156 k78 x2 x3 x4 x5 (x6 + (1 : Int32)) x7 S
set_option maxRecDepth 100000 in
theorem X_w_days_153 {nL : Nat} {xs : Nat → Int32} {M : Sto} {O : Sto} {d : Nat} (hd : 8 ≤ d) {k78 : Int32 → Int32 → Int32 → Int32 → Int32 → Int32 → Sto → Option (Int32 ⊕ Nat)} (hk78 : ∀ (x2 : Int32) (x3 : Int32) (x4 : Int32) (x5 : Int32) (x6 : Int32) (x7 : Int32) (S : Sto) (r : Int32 ⊕ Nat), k78 x2 x3 x4 x5 x6 x7 S = some r → EX nL xs 1 MI_271 d 78 [some (.ref 0), none, some (.int x2), some (.int x3), some (.int x4), some (.int x5), some (.int x6), some (.int x7), none] [] (S, M, O) (rsI r) (S, M, O)) : ∀ (x2 : Int32) (x3 : Int32) (x4 : Int32) (x5 : Int32) (x6 : Int32) (x7 : Int32) (S : Sto) (r : Int32 ⊕ Nat), F_w_days_153 k78 x2 x3 x4 x5 x6 x7 S = some r → EX nL xs 1 MI_271 d 153 [some (.ref 0), none, some (.int x2), some (.int x3), some (.int x4), some (.int x5), some (.int x6), some (.int x7), none] [] (S, M, O) (rsI r) (S, M, O) := by
  intro x2 x3 x4 x5 x6 x7 S r hF
  unfold F_w_days_153 at hF
  refine Ex_go 1 (pc' := 156) (L' := [some (.ref 0), none, some (.int x2), some (.int x3), some (.int x4), some (.int x5), some (.int (x6 + (1 : Int32))), some (.int x7), none]) (st' := []) (σ' := (S, M, O)) (rfl) ?_
  exact Ex_mono (L := [some (.ref 0), none, some (.int x2), some (.int x3), some (.int x4), some (.int x5), some (.int (x6 + (1 : Int32))), some (.int x7), none]) (Le_s (Le_n (Le_s (Le_s (Le_s (Le_s (Le_s (Le_s (Le_n (Le_0)))))))))) (X_w_days_156 hd hk78 _ _ _ _ _ _ _ _ hF) (Nat.le_refl _) (by omega)
def F_w_days_78 : Nat → Int32 → Int32 → Int32 → Int32 → Int32 → Int32 → Sto → Option (Int32 ⊕ Nat)
  | 0, _, _, _, _, _, _, _ => none
  | n + 1, x2, x3, x4, x5, x6, x7, S => if x2 ≤ x7 then some (.inl x6) else b1 (F_w_remainder (Int32.toInt64 (((Int32.toUInt32 ((x5 * (1103515245 : Int32)) + (12345 : Int32)) >>> (Int32.toUInt32 (16 : Int32) &&& Int32.toUInt32 31)).toInt32) &&& (32767 : Int32))) (Int32.toInt64 x4)) (fun r1 => b1 (F_Se_catchers ((gl S 26) + r1) S) (fun r3 => if x3 = (-1 : Int32) then if r3 = 0 then F_w_days_153 (F_w_days_78 n) x2 x3 x4 ((x5 * (1103515245 : Int32)) + (12345 : Int32)) x6 x7 S else F_w_days_156 (F_w_days_78 n) x2 x3 x4 ((x5 * (1103515245 : Int32)) + (12345 : Int32)) x6 x7 S else b1 (F_w_bit (Int32.toInt64 r3) x3) (fun r5 => if r5 = (1 : Int32) then F_w_days_153 (F_w_days_78 n) x2 x3 x4 ((x5 * (1103515245 : Int32)) + (12345 : Int32)) x6 x7 S else F_w_days_156 (F_w_days_78 n) x2 x3 x4 ((x5 * (1103515245 : Int32)) + (12345 : Int32)) x6 x7 S)))
set_option maxRecDepth 100000 in
theorem X_w_days_78 {nL : Nat} {xs : Nat → Int32} {M : Sto} {O : Sto} {d : Nat} (hd : 8 ≤ d) : ∀ n : Nat, ∀ (x2 : Int32) (x3 : Int32) (x4 : Int32) (x5 : Int32) (x6 : Int32) (x7 : Int32) (S : Sto) (r : Int32 ⊕ Nat), F_w_days_78 n x2 x3 x4 x5 x6 x7 S = some r → EX nL xs 1 MI_271 d 78 [some (.ref 0), none, some (.int x2), some (.int x3), some (.int x4), some (.int x5), some (.int x6), some (.int x7), none] [] (S, M, O) (rsI r) (S, M, O) := by
  intro n
  induction n with
  | zero => intro x2 x3 x4 x5 x6 x7 S r hF; cases hF
  | succ n ih =>
  intro x2 x3 x4 x5 x6 x7 S r hF
  unfold F_w_days_78 at hF
  refine Ex_go 3 (pc' := if x2 ≤ x7 then 162 else 84) (L' := [some (.ref 0), none, some (.int x2), some (.int x3), some (.int x4), some (.int x5), some (.int x6), some (.int x7), none]) (st' := []) (σ' := (S, M, O)) (rfl) ?_
  refine Ex_br (fun hc => ?_) (fun hc => ?_)
  · rw [if_pos hc] at hF
    refine Ex_go 1 (pc' := 164) (L' := [some (.ref 0), none, some (.int x2), some (.int x3), some (.int x4), some (.int x5), some (.int x6), some (.int x7), none]) (st' := [.int x6]) (σ' := (S, M, O)) (rfl) ?_
    cases hF
    exact Ex_fin rfl
  · rw [if_neg hc] at hF
    refine Ex_go 10 (pc' := 104) (L' := [some (.ref 0), none, some (.int x2), some (.int x3), some (.int x4), some (.int ((x5 * (1103515245 : Int32)) + (12345 : Int32))), some (.int x6), some (.int x7), none]) (st' := [.ref 27, .ref 12]) (σ' := (S, M, O)) (rfl) ?_
    refine Ex_go 9 (pc' := 120) (L' := [some (.ref 0), none, some (.int x2), some (.int x3), some (.int x4), some (.int ((x5 * (1103515245 : Int32)) + (12345 : Int32))), some (.int x6), some (.int x7), none]) (st' := [.long (Int32.toInt64 x4), .long (Int32.toInt64 (((Int32.toUInt32 ((x5 * (1103515245 : Int32)) + (12345 : Int32)) >>> (Int32.toUInt32 (16 : Int32) &&& Int32.toUInt32 31)).toInt32) &&& (32767 : Int32))), .long (gl S 26), .ref 12]) (σ' := (S, M, O)) (rfl) ?_
    obtain ⟨r1, hx2, hF⟩ := b1_i hF
    refine Ex_callK (K1 := 0) (K2 := 1) (kind := 0) (y := 41) (as := [.long (Int32.toInt64 (((Int32.toUInt32 ((x5 * (1103515245 : Int32)) + (12345 : Int32)) >>> (Int32.toUInt32 (16 : Int32) &&& Int32.toUInt32 31)).toInt32) &&& (32767 : Int32))), .long (Int32.toInt64 x4)]) (rest := [.long (gl S 26), .ref 12]) (L0 := [some (.long (Int32.toInt64 (((Int32.toUInt32 ((x5 * (1103515245 : Int32)) + (12345 : Int32)) >>> (Int32.toUInt32 (16 : Int32) &&& Int32.toUInt32 31)).toInt32) &&& (32767 : Int32)))), none, some (.long (Int32.toInt64 x4)), none]) (d' := 1) (v := some (.long r1)) (σ1 := (S, M, O)) rfl rfl mt_41 rfl rfl (by omega) (X_w_remainder (Nat.le_refl _) _ _ _ hx2) (Ex_st (st2 := [.long r1, .long (gl S 26), .ref 12]) rfl ?_) (by omega)
    refine Ex_go 1 (pc' := 124) (L' := [some (.ref 0), none, some (.int x2), some (.int x3), some (.int x4), some (.int ((x5 * (1103515245 : Int32)) + (12345 : Int32))), some (.int x6), some (.int x7), none]) (st' := [.long ((gl S 26) + r1), .ref 12]) (σ' := (S, M, O)) (rfl) ?_
    obtain ⟨r3, hx4, hF⟩ := b1_i hF
    refine Ex_callK (K1 := 0) (K2 := 1) (kind := 2) (y := 124) (as := [.ref 12, .long ((gl S 26) + r1)]) (rest := []) (L0 := [some (.ref 12), some (.long ((gl S 26) + r1)), none, none, none]) (d' := 2) (v := some (.int r3)) (σ1 := (S, M, O)) rfl rfl mt_124 rfl rfl (by omega) (X_Se_catchers (Nat.le_refl _) _ _ _ hx4) (Ex_st (st2 := [.int r3]) rfl ?_) (by omega)
    refine Ex_go 4 (pc' := if ¬ x3 = (-1 : Int32) then 142 else 134) (L' := [some (.ref 0), none, some (.int x2), some (.int x3), some (.int x4), some (.int ((x5 * (1103515245 : Int32)) + (12345 : Int32))), some (.int x6), some (.int x7), some (.int r3)]) (st' := []) (σ' := (S, M, O)) (rfl) ?_
    refine Ex_brN (fun hc => ?_) (fun hc => ?_)
    · rw [if_pos hc] at hF
      refine Ex_go 2 (pc' := if ¬ r3 = 0 then 156 else 139) (L' := [some (.ref 0), none, some (.int x2), some (.int x3), some (.int x4), some (.int ((x5 * (1103515245 : Int32)) + (12345 : Int32))), some (.int x6), some (.int x7), some (.int r3)]) (st' := []) (σ' := (S, M, O)) (rfl) ?_
      refine Ex_brN (fun hc => ?_) (fun hc => ?_)
      · rw [if_pos hc] at hF
        refine Ex_go 1 (pc' := 153) (L' := [some (.ref 0), none, some (.int x2), some (.int x3), some (.int x4), some (.int ((x5 * (1103515245 : Int32)) + (12345 : Int32))), some (.int x6), some (.int x7), some (.int r3)]) (st' := []) (σ' := (S, M, O)) (rfl) ?_
        exact Ex_mono (L := [some (.ref 0), none, some (.int x2), some (.int x3), some (.int x4), some (.int ((x5 * (1103515245 : Int32)) + (12345 : Int32))), some (.int x6), some (.int x7), none]) (Le_s (Le_n (Le_s (Le_s (Le_s (Le_s (Le_s (Le_s (Le_n (Le_0)))))))))) (X_w_days_153 hd ih _ _ _ _ _ _ _ _ hF) (Nat.le_refl _) (by omega)
      · rw [if_neg hc] at hF
        exact Ex_mono (L := [some (.ref 0), none, some (.int x2), some (.int x3), some (.int x4), some (.int ((x5 * (1103515245 : Int32)) + (12345 : Int32))), some (.int x6), some (.int x7), none]) (Le_s (Le_n (Le_s (Le_s (Le_s (Le_s (Le_s (Le_s (Le_n (Le_0)))))))))) (X_w_days_156 hd ih _ _ _ _ _ _ _ _ hF) (Nat.le_refl _) (by omega)
    · rw [if_neg hc] at hF
      refine Ex_go 3 (pc' := 146) (L' := [some (.ref 0), none, some (.int x2), some (.int x3), some (.int x4), some (.int ((x5 * (1103515245 : Int32)) + (12345 : Int32))), some (.int x6), some (.int x7), some (.int r3)]) (st' := [.int x3, .long (Int32.toInt64 r3)]) (σ' := (S, M, O)) (rfl) ?_
      obtain ⟨r5, hx6, hF⟩ := b1_i hF
      refine Ex_callK (K1 := 0) (K2 := 1) (kind := 0) (y := 15) (as := [.long (Int32.toInt64 r3), .int x3]) (rest := []) (L0 := [some (.long (Int32.toInt64 r3)), none, some (.int x3)]) (d' := 1) (v := some (.int r5)) (σ1 := (S, M, O)) rfl rfl mt_15 rfl rfl (by omega) (X_w_bit (Nat.le_refl _) _ _ _ hx6) (Ex_st (st2 := [.int r5]) rfl ?_) (by omega)
      refine Ex_go 2 (pc' := if ¬ r5 = (1 : Int32) then 156 else 153) (L' := [some (.ref 0), none, some (.int x2), some (.int x3), some (.int x4), some (.int ((x5 * (1103515245 : Int32)) + (12345 : Int32))), some (.int x6), some (.int x7), some (.int r3)]) (st' := []) (σ' := (S, M, O)) (rfl) ?_
      refine Ex_brN (fun hc => ?_) (fun hc => ?_)
      · rw [if_pos hc] at hF
        exact Ex_mono (L := [some (.ref 0), none, some (.int x2), some (.int x3), some (.int x4), some (.int ((x5 * (1103515245 : Int32)) + (12345 : Int32))), some (.int x6), some (.int x7), none]) (Le_s (Le_n (Le_s (Le_s (Le_s (Le_s (Le_s (Le_s (Le_n (Le_0)))))))))) (X_w_days_153 hd ih _ _ _ _ _ _ _ _ hF) (Nat.le_refl _) (by omega)
      · rw [if_neg hc] at hF
        exact Ex_mono (L := [some (.ref 0), none, some (.int x2), some (.int x3), some (.int x4), some (.int ((x5 * (1103515245 : Int32)) + (12345 : Int32))), some (.int x6), some (.int x7), none]) (Le_s (Le_n (Le_s (Le_s (Le_s (Le_s (Le_s (Le_s (Le_n (Le_0)))))))))) (X_w_days_156 hd ih _ _ _ _ _ _ _ _ hF) (Nat.le_refl _) (by omega)
def F_w_days_24 (x1 : Int32) (x2 : Int32) (x3 : Int32) (S : Sto) : Option (Int32 ⊕ Nat) := if x2 < 0 then F_w_days_35 S else if x2 ≤ (300 : Int32) then nm (Int64.toInt32 (mnL (((gl S 27) - (gl S 26)) + (1 : Int64)) (32768 : Int64))) (fun t1 => F_w_days_78 FU x2 x3 t1 x1 (0 : Int32) (0 : Int32) S) else F_w_days_35 S
set_option maxRecDepth 100000 in
theorem X_w_days_24 {nL : Nat} {xs : Nat → Int32} {M : Sto} {O : Sto} {d : Nat} (hd : 8 ≤ d) : ∀ (x1 : Int32) (x2 : Int32) (x3 : Int32) (S : Sto) (r : Int32 ⊕ Nat), F_w_days_24 x1 x2 x3 S = some r → EX nL xs 1 MI_271 d 24 [some (.ref 0), some (.int x1), some (.int x2), some (.int x3), none, none, none, none, none] [] (S, M, O) (rsI r) (S, M, O) := by
  intro x1 x2 x3 S r hF
  unfold F_w_days_24 at hF
  refine Ex_go 2 (pc' := if x2 < 0 then 35 else 28) (L' := [some (.ref 0), some (.int x1), some (.int x2), some (.int x3), none, none, none, none, none]) (st' := []) (σ' := (S, M, O)) (rfl) ?_
  refine Ex_br (fun hc => ?_) (fun hc => ?_)
  · rw [if_pos hc] at hF
    exact Ex_mono (L := [none, none, none, none, none, none, none, none, none]) (Le_n (Le_n (Le_n (Le_n (Le_n (Le_n (Le_n (Le_n (Le_n (Le_0)))))))))) (X_w_days_35 hd _ _ hF) (Nat.le_refl _) (by omega)
  · rw [if_neg hc] at hF
    refine Ex_go 3 (pc' := if x2 ≤ (300 : Int32) then 43 else 35) (L' := [some (.ref 0), some (.int x1), some (.int x2), some (.int x3), none, none, none, none, none]) (st' := []) (σ' := (S, M, O)) (rfl) ?_
    refine Ex_br (fun hc => ?_) (fun hc => ?_)
    · rw [if_pos hc] at hF
      refine Ex_go 10 (pc' := 63) (L' := [some (.ref 0), some (.int x1), some (.int x2), some (.int x3), none, none, none, none, none]) (st' := [.long (32768 : Int64), .long (((gl S 27) - (gl S 26)) + (1 : Int64))]) (σ' := (S, M, O)) (rfl) ?_
      refine Ex_blt (kind := 12) (y := 0) (as := [.long (((gl S 27) - (gl S 26)) + (1 : Int64)), .long (32768 : Int64)]) (rest := []) (v := .long (mnL (((gl S 27) - (gl S 26)) + (1 : Int64)) (32768 : Int64))) rfl rfl (by omega) ?_
      obtain ⟨t1, ht2, hF⟩ := nm_i hF
      refine Ex_go 2 (pc' := 69) (L' := [some (.ref 0), some (.int x1), some (.int x2), some (.int x3), some (.int t1), none, none, none, none]) (st' := []) (σ' := (S, M, O)) (by rw [ht2]; rfl) ?_
      refine Ex_go 6 (pc' := 78) (L' := [some (.ref 0), some (.int x1), some (.int x2), some (.int x3), some (.int t1), some (.int x1), some (.int (0 : Int32)), some (.int (0 : Int32)), none]) (st' := []) (σ' := (S, M, O)) (rfl) ?_
      exact Ex_mono (L := [some (.ref 0), none, some (.int x2), some (.int x3), some (.int t1), some (.int x1), some (.int (0 : Int32)), some (.int (0 : Int32)), none]) (Le_s (Le_n (Le_s (Le_s (Le_s (Le_s (Le_s (Le_s (Le_n (Le_0)))))))))) (X_w_days_78 hd FU _ _ _ _ _ _ _ _ hF) (Nat.le_refl _) (by omega)
    · rw [if_neg hc] at hF
      exact Ex_mono (L := [none, none, none, none, none, none, none, none, none]) (Le_n (Le_n (Le_n (Le_n (Le_n (Le_n (Le_n (Le_n (Le_n (Le_0)))))))))) (X_w_days_35 hd _ _ hF) (Nat.le_refl _) (by omega)
def F_w_days (x1 : Int32) (x2 : Int32) (x3 : Int32) (S : Sto) : Option (Int32 ⊕ Nat) := if x3 = (-1 : Int32) then F_w_days_24 x1 x2 x3 S else b1 (F_Se_has x3 S) (fun r1 => if r1 = 0 then some (.inr 1) else F_w_days_24 x1 x2 x3 S)
set_option maxRecDepth 100000 in
theorem X_w_days {nL : Nat} {xs : Nat → Int32} {M : Sto} {O : Sto} {d : Nat} (hd : 8 ≤ d) : ∀ (x1 : Int32) (x2 : Int32) (x3 : Int32) (S : Sto) (r : Int32 ⊕ Nat), F_w_days x1 x2 x3 S = some r → EX nL xs 1 MI_271 d 0 [some (.ref 0), some (.int x1), some (.int x2), some (.int x3), none, none, none, none, none] [] (S, M, O) (rsI r) (S, M, O) := by
  intro x1 x2 x3 S r hF
  unfold F_w_days at hF
  refine Ex_go 3 (pc' := if x3 = (-1 : Int32) then 24 else 5) (L' := [some (.ref 0), some (.int x1), some (.int x2), some (.int x3), none, none, none, none, none]) (st' := []) (σ' := (S, M, O)) (rfl) ?_
  refine Ex_br (fun hc => ?_) (fun hc => ?_)
  · rw [if_pos hc] at hF
    exact Ex_mono (L := [some (.ref 0), some (.int x1), some (.int x2), some (.int x3), none, none, none, none, none]) (Le_s (Le_s (Le_s (Le_s (Le_n (Le_n (Le_n (Le_n (Le_n (Le_0)))))))))) (X_w_days_24 hd _ _ _ _ _ hF) (Nat.le_refl _) (by omega)
  · rw [if_neg hc] at hF
    refine Ex_go 3 (pc' := 10) (L' := [some (.ref 0), some (.int x1), some (.int x2), some (.int x3), none, none, none, none, none]) (st' := [.int x3, .ref 12]) (σ' := (S, M, O)) (rfl) ?_
    obtain ⟨r1, hx2, hF⟩ := b1_i hF
    refine Ex_callK (K1 := 0) (K2 := 1) (kind := 2) (y := 87) (as := [.ref 12, .int x3]) (rest := []) (L0 := [some (.ref 12), some (.int x3)]) (d' := 1) (v := some (.int r1)) (σ1 := (S, M, O)) rfl rfl mt_87 rfl rfl (by omega) (X_Se_has (Nat.le_refl _) _ _ _ hx2) (Ex_st (st2 := [.int r1]) rfl ?_) (by omega)
    refine Ex_go 1 (pc' := if ¬ r1 = 0 then 24 else 16) (L' := [some (.ref 0), some (.int x1), some (.int x2), some (.int x3), none, none, none, none, none]) (st' := []) (σ' := (S, M, O)) (rfl) ?_
    refine Ex_brN (fun hc => ?_) (fun hc => ?_)
    · rw [if_pos hc] at hF
      cases hF
      exact Ex_thr rfl (by omega) (Nat.le_refl _)
    · rw [if_neg hc] at hF
      exact Ex_mono (L := [some (.ref 0), some (.int x1), some (.int x2), some (.int x3), none, none, none, none, none]) (Le_s (Le_s (Le_s (Le_s (Le_n (Le_n (Le_n (Le_n (Le_n (Le_0)))))))))) (X_w_days_24 hd _ _ _ _ _ hF) (Nat.le_refl _) (by omega)
def F_l_days (x1 : Int32) (x2 : Int32) (x3 : Int32) (S : Sto) (O : Sto) : Option (Int32 × Sto) := b1 (F_w_days x1 x2 x3 S) (fun r1 => su r1 (fun v3 => some ((0 : Int32), (ul O 2000 (vp_updL (al O 2000) (Int32.toNatClampNeg (0 : Int32)) (Int32.toInt64 v3))))) (fun z4 => if z4 = 0 then some ((2 : Int32), O) else (if z4 = 1 then some ((1 : Int32), O) else (none))))
set_option maxRecDepth 100000 in
theorem X_l_days {nL : Nat} {xs : Nat → Int32} {M : Sto} {d : Nat} (hd : 9 ≤ d) : ∀ (x1 : Int32) (x2 : Int32) (x3 : Int32) (S : Sto) (O : Sto) (r : Int32) (O' : Sto), F_l_days x1 x2 x3 S O = some (r, O') → EX nL xs 1 MI_272 d 0 [some (.ref 0), some (.int x1), some (.int x2), some (.int x3), some (.ref 2000), none] [] (S, M, O) (.inl (some (.int r))) (S, M, O') := by
  intro x1 x2 x3 S O r O' hF
  unfold F_l_days at hF
  refine Ex_go 6 (pc' := 7) (L' := [some (.ref 0), some (.int x1), some (.int x2), some (.int x3), some (.ref 2000), none]) (st' := [.int x3, .int x2, .int x1, .ref 0, .int (0 : Int32), .ref 2000]) (σ' := (S, M, O)) (rfl) ?_
  obtain ⟨r1, hx2, hF⟩ := b1_i hF
  cases r1 with
  | inl v3 =>
    rw [su_l] at hF
    refine Ex_callK (K1 := 1) (K2 := 0) (kind := 3) (y := 271) (as := [.ref 0, .int x1, .int x2, .int x3]) (rest := [.int (0 : Int32), .ref 2000]) (L0 := [some (.ref 0), some (.int x1), some (.int x2), some (.int x3), none, none, none, none, none]) (d' := 8) (v := some (.int v3)) (σ1 := (S, M, O)) rfl rfl mt_271 rfl rfl (by omega) (X_w_days (Nat.le_refl _) _ _ _ _ _ hx2) (Ex_st (st2 := [.int v3, .int (0 : Int32), .ref 2000]) rfl ?_) (by omega)
    refine Ex_go 1 (pc' := 11) (L' := [some (.ref 0), some (.int x1), some (.int x2), some (.int x3), some (.ref 2000), none]) (st' := [.long (Int32.toInt64 v3), .int (0 : Int32), .ref 2000]) (σ' := (S, M, O)) (rfl) ?_
    refine Ex_chk (b := ib (0 : Int32) 1) (pc' := 12) (L' := [some (.ref 0), some (.int x1), some (.int x2), some (.int x3), some (.ref 2000), none]) (st' := []) (σ' := (S, M, (ul O 2000 (vp_updL (al O 2000) (Int32.toNatClampNeg (0 : Int32)) (Int32.toInt64 v3))))) rfl (by decide) ?_
    refine Ex_go 2 (pc' := 24) (L' := [some (.ref 0), some (.int x1), some (.int x2), some (.int x3), some (.ref 2000), none]) (st' := [.int (0 : Int32)]) (σ' := (S, M, (ul O 2000 (vp_updL (al O 2000) (Int32.toNatClampNeg (0 : Int32)) (Int32.toInt64 v3))))) (rfl) ?_
    cases hF
    exact Ex_fin rfl
  | inr z4 =>
    by_cases hz0 : z4 = 0
    · have hF : (if z4 = 0 then _ else _) = _ := hF
      rw [if_pos hz0] at hF
      subst hz0
      refine Ex_callX (K1 := 1) (K2 := 0) (y := 271) (as := [.ref 0, .int x1, .int x2, .int x3]) (rest := [.int (0 : Int32), .ref 2000]) (L0 := [some (.ref 0), some (.int x1), some (.int x2), some (.int x3), none, none, none, none, none]) (d' := 8) (σ1 := (S, M, O)) (x := 0) (pc' := 21) (i := 5) rfl rfl mt_271 rfl rfl (by omega) (X_w_days (Nat.le_refl _) _ _ _ _ _ hx2) rfl (Ex_L (L2 := [some (.ref 0), some (.int x1), some (.int x2), some (.int x3), some (.ref 2000), none]) rfl ?_) (by omega)
      refine Ex_go 1 (pc' := 22) (L' := [some (.ref 0), some (.int x1), some (.int x2), some (.int x3), some (.ref 2000), none]) (st' := [.int (2 : Int32)]) (σ' := (S, M, O)) (rfl) ?_
      cases hF
      exact Ex_fin rfl
    have hF : (if z4 = 0 then _ else _) = _ := hF
    rw [if_neg hz0] at hF
    by_cases hz1 : z4 = 1
    · have hF : (if z4 = 1 then _ else _) = _ := hF
      rw [if_pos hz1] at hF
      subst hz1
      refine Ex_callX (K1 := 1) (K2 := 0) (y := 271) (as := [.ref 0, .int x1, .int x2, .int x3]) (rest := [.int (0 : Int32), .ref 2000]) (L0 := [some (.ref 0), some (.int x1), some (.int x2), some (.int x3), none, none, none, none, none]) (d' := 8) (σ1 := (S, M, O)) (x := 1) (pc' := 17) (i := 5) rfl rfl mt_271 rfl rfl (by omega) (X_w_days (Nat.le_refl _) _ _ _ _ _ hx2) rfl (Ex_L (L2 := [some (.ref 0), some (.int x1), some (.int x2), some (.int x3), some (.ref 2000), none]) rfl ?_) (by omega)
      refine Ex_go 1 (pc' := 18) (L' := [some (.ref 0), some (.int x1), some (.int x2), some (.int x3), some (.ref 2000), none]) (st' := [.int (1 : Int32)]) (σ' := (S, M, O)) (rfl) ?_
      cases hF
      exact Ex_fin rfl
    have hF : (if z4 = 1 then _ else _) = _ := hF
    rw [if_neg hz1] at hF
    cases hF
def F_m_isIn (x0 : Int64) (x2 : Int64) (x4 : Int64) : Option Int32 := if x0 < x2 then some (0 : Int32) else if x4 < x0 then some (0 : Int32) else some (1 : Int32)
set_option maxRecDepth 100000 in
theorem X_m_isIn {nL : Nat} {xs : Nat → Int32} {S : Sto} {M : Sto} {O : Sto} {d : Nat} (hd : 1 ≤ d) : ∀ (x0 : Int64) (x2 : Int64) (x4 : Int64) (r : Int32), F_m_isIn x0 x2 x4 = some r → EX nL xs 0 MI_91 d 0 [some (.long x0), none, some (.long x2), none, some (.long x4), none] [] (S, M, O) (.inl (some (.int r))) (S, M, O) := by
  intro x0 x2 x4 r hF
  unfold F_m_isIn at hF
  refine Ex_go 4 (pc' := if (lg_cmp x0 x2) < 0 then 17 else 6) (L' := [some (.long x0), none, some (.long x2), none, some (.long x4), none]) (st' := []) (σ' := (S, M, O)) (rfl) ?_
  refine Ex_brI lc_lt (fun hc => ?_) (fun hc => ?_)
  · rw [if_pos hc] at hF
    refine Ex_go 1 (pc' := 18) (L' := [some (.long x0), none, some (.long x2), none, some (.long x4), none]) (st' := [.int (0 : Int32)]) (σ' := (S, M, O)) (rfl) ?_
    cases hF
    exact Ex_fin rfl
  · rw [if_neg hc] at hF
    refine Ex_go 4 (pc' := if 0 < (lg_cmp x0 x4) then 17 else 13) (L' := [some (.long x0), none, some (.long x2), none, some (.long x4), none]) (st' := []) (σ' := (S, M, O)) (rfl) ?_
    refine Ex_brI lc_gt (fun hc => ?_) (fun hc => ?_)
    · rw [if_pos hc] at hF
      refine Ex_go 1 (pc' := 18) (L' := [some (.long x0), none, some (.long x2), none, some (.long x4), none]) (st' := [.int (0 : Int32)]) (σ' := (S, M, O)) (rfl) ?_
      cases hF
      exact Ex_fin rfl
    · rw [if_neg hc] at hF
      refine Ex_go 2 (pc' := 18) (L' := [some (.long x0), none, some (.long x2), none, some (.long x4), none]) (st' := [.int (1 : Int32)]) (σ' := (S, M, O)) (rfl) ?_
      cases hF
      exact Ex_fin rfl
def F_m_fromOf (x1 : Int32) (M : Sto) : Option Int64 := ck (ib x1 16) (if (ai M 1005 (Int32.toNatClampNeg x1)) = 0 then some (1 : Int64) else ck (ib x1 16) (some (Int32.toInt64 (ai M 1005 (Int32.toNatClampNeg x1)))))
set_option maxRecDepth 100000 in
theorem X_m_fromOf {nL : Nat} {xs : Nat → Int32} {S : Sto} {O : Sto} {d : Nat} (hd : 1 ≤ d) : ∀ (x1 : Int32) (M : Sto) (r : Int64), F_m_fromOf x1 M = some r → EX nL xs 0 MI_92 d 0 [some (.ref 1000), some (.int x1)] [] (S, M, O) (.inl (some (.long r))) (S, M, O) := by
  intro x1 M r hF
  unfold F_m_fromOf at hF
  refine Ex_go 3 (pc' := 5) (L' := [some (.ref 1000), some (.int x1)]) (st' := [.int x1, .ref 1005]) (σ' := (S, M, O)) (rfl) ?_
  obtain ⟨hc1, hF⟩ := ck_i hF
  refine Ex_chk (b := ib x1 16) (pc' := 6) (L' := [some (.ref 1000), some (.int x1)]) (st' := [.int (ai M 1005 (Int32.toNatClampNeg x1))]) (σ' := (S, M, O)) rfl hc1 ?_
  refine Ex_go 1 (pc' := if ¬ (ai M 1005 (Int32.toNatClampNeg x1)) = 0 then 13 else 9) (L' := [some (.ref 1000), some (.int x1)]) (st' := []) (σ' := (S, M, O)) (rfl) ?_
  refine Ex_brN (fun hc => ?_) (fun hc => ?_)
  · rw [if_pos hc] at hF
    refine Ex_go 2 (pc' := 20) (L' := [some (.ref 1000), some (.int x1)]) (st' := [.long (1 : Int64)]) (σ' := (S, M, O)) (rfl) ?_
    cases hF
    exact Ex_fin rfl
  · rw [if_neg hc] at hF
    refine Ex_go 3 (pc' := 18) (L' := [some (.ref 1000), some (.int x1)]) (st' := [.int x1, .ref 1005]) (σ' := (S, M, O)) (rfl) ?_
    obtain ⟨hc2, hF⟩ := ck_i hF
    refine Ex_chk (b := ib x1 16) (pc' := 19) (L' := [some (.ref 1000), some (.int x1)]) (st' := [.int (ai M 1005 (Int32.toNatClampNeg x1))]) (σ' := (S, M, O)) rfl hc2 ?_
    refine Ex_go 1 (pc' := 20) (L' := [some (.ref 1000), some (.int x1)]) (st' := [.long (Int32.toInt64 (ai M 1005 (Int32.toNatClampNeg x1)))]) (σ' := (S, M, O)) (rfl) ?_
    cases hF
    exact Ex_fin rfl
def F_m_toOf (x1 : Int32) (M : Sto) : Option Int64 := ck (ib x1 16) (if (ai M 1006 (Int32.toNatClampNeg x1)) = 0 then some (1000000000000 : Int64) else ck (ib x1 16) (some (Int32.toInt64 (ai M 1006 (Int32.toNatClampNeg x1)))))
set_option maxRecDepth 100000 in
theorem X_m_toOf {nL : Nat} {xs : Nat → Int32} {S : Sto} {O : Sto} {d : Nat} (hd : 1 ≤ d) : ∀ (x1 : Int32) (M : Sto) (r : Int64), F_m_toOf x1 M = some r → EX nL xs 0 MI_93 d 0 [some (.ref 1000), some (.int x1)] [] (S, M, O) (.inl (some (.long r))) (S, M, O) := by
  intro x1 M r hF
  unfold F_m_toOf at hF
  refine Ex_go 3 (pc' := 5) (L' := [some (.ref 1000), some (.int x1)]) (st' := [.int x1, .ref 1006]) (σ' := (S, M, O)) (rfl) ?_
  obtain ⟨hc1, hF⟩ := ck_i hF
  refine Ex_chk (b := ib x1 16) (pc' := 6) (L' := [some (.ref 1000), some (.int x1)]) (st' := [.int (ai M 1006 (Int32.toNatClampNeg x1))]) (σ' := (S, M, O)) rfl hc1 ?_
  refine Ex_go 1 (pc' := if ¬ (ai M 1006 (Int32.toNatClampNeg x1)) = 0 then 15 else 9) (L' := [some (.ref 1000), some (.int x1)]) (st' := []) (σ' := (S, M, O)) (rfl) ?_
  refine Ex_brN (fun hc => ?_) (fun hc => ?_)
  · rw [if_pos hc] at hF
    refine Ex_go 2 (pc' := 22) (L' := [some (.ref 1000), some (.int x1)]) (st' := [.long (1000000000000 : Int64)]) (σ' := (S, M, O)) (rfl) ?_
    cases hF
    exact Ex_fin rfl
  · rw [if_neg hc] at hF
    refine Ex_go 3 (pc' := 20) (L' := [some (.ref 1000), some (.int x1)]) (st' := [.int x1, .ref 1006]) (σ' := (S, M, O)) (rfl) ?_
    obtain ⟨hc2, hF⟩ := ck_i hF
    refine Ex_chk (b := ib x1 16) (pc' := 21) (L' := [some (.ref 1000), some (.int x1)]) (st' := [.int (ai M 1006 (Int32.toNatClampNeg x1))]) (σ' := (S, M, O)) rfl hc2 ?_
    refine Ex_go 1 (pc' := 22) (L' := [some (.ref 1000), some (.int x1)]) (st' := [.long (Int32.toInt64 (ai M 1006 (Int32.toNatClampNeg x1)))]) (σ' := (S, M, O)) (rfl) ?_
    cases hF
    exact Ex_fin rfl
def F_m_catches (x1 : Int32) (x2 : Int64) (M : Sto) : Option Int32 := b1 (F_m_fromOf x1 M) (fun r1 => if x2 < r1 then some (0 : Int32) else b1 (F_m_toOf x1 M) (fun r3 => if r3 < x2 then some (0 : Int32) else ck (ib x1 16) (ck (nzL (al M 1009 (Int32.toNatClampNeg x1))) (ck (ib x1 16) (if (x2 - x2 / (al M 1009 (Int32.toNatClampNeg x1)) * (al M 1009 (Int32.toNatClampNeg x1))) = (al M 1010 (Int32.toNatClampNeg x1)) then some (1 : Int32) else some (0 : Int32))))))
set_option maxRecDepth 100000 in
theorem X_m_catches {nL : Nat} {xs : Nat → Int32} {S : Sto} {O : Sto} {d : Nat} (hd : 2 ≤ d) : ∀ (x1 : Int32) (x2 : Int64) (M : Sto) (r : Int32), F_m_catches x1 x2 M = some r → EX nL xs 0 MI_127 d 0 [some (.ref 1000), some (.int x1), some (.long x2), none] [] (S, M, O) (.inl (some (.int r))) (S, M, O) := by
  intro x1 x2 M r hF
  unfold F_m_catches at hF
  refine Ex_go 3 (pc' := 3) (L' := [some (.ref 1000), some (.int x1), some (.long x2), none]) (st' := [.int x1, .ref 1000, .long x2]) (σ' := (S, M, O)) (rfl) ?_
  obtain ⟨r1, hx2, hF⟩ := b1_i hF
  refine Ex_call (kind := 2) (y := 92) (as := [.ref 1000, .int x1]) (rest := [.long x2]) (L0 := [some (.ref 1000), some (.int x1)]) (d' := 1) (v := some (.long r1)) (σ1 := (S, M, O)) rfl rfl mt_92 rfl rfl (by omega) (X_m_fromOf (Nat.le_refl _) _ _ _ hx2) (Ex_st (st2 := [.long r1, .long x2]) rfl ?_)
  refine Ex_go 2 (pc' := if (lg_cmp x2 r1) < 0 then 42 else 10) (L' := [some (.ref 1000), some (.int x1), some (.long x2), none]) (st' := []) (σ' := (S, M, O)) (rfl) ?_
  refine Ex_brI lc_lt (fun hc => ?_) (fun hc => ?_)
  · rw [if_pos hc] at hF
    refine Ex_go 1 (pc' := 43) (L' := [some (.ref 1000), some (.int x1), some (.long x2), none]) (st' := [.int (0 : Int32)]) (σ' := (S, M, O)) (rfl) ?_
    cases hF
    exact Ex_fin rfl
  · rw [if_neg hc] at hF
    refine Ex_go 3 (pc' := 13) (L' := [some (.ref 1000), some (.int x1), some (.long x2), none]) (st' := [.int x1, .ref 1000, .long x2]) (σ' := (S, M, O)) (rfl) ?_
    obtain ⟨r3, hx4, hF⟩ := b1_i hF
    refine Ex_call (kind := 2) (y := 93) (as := [.ref 1000, .int x1]) (rest := [.long x2]) (L0 := [some (.ref 1000), some (.int x1)]) (d' := 1) (v := some (.long r3)) (σ1 := (S, M, O)) rfl rfl mt_93 rfl rfl (by omega) (X_m_toOf (Nat.le_refl _) _ _ _ hx4) (Ex_st (st2 := [.long r3, .long x2]) rfl ?_)
    refine Ex_go 2 (pc' := if 0 < (lg_cmp x2 r3) then 42 else 20) (L' := [some (.ref 1000), some (.int x1), some (.long x2), none]) (st' := []) (σ' := (S, M, O)) (rfl) ?_
    refine Ex_brI lc_gt (fun hc => ?_) (fun hc => ?_)
    · rw [if_pos hc] at hF
      refine Ex_go 1 (pc' := 43) (L' := [some (.ref 1000), some (.int x1), some (.long x2), none]) (st' := [.int (0 : Int32)]) (σ' := (S, M, O)) (rfl) ?_
      cases hF
      exact Ex_fin rfl
    · rw [if_neg hc] at hF
      refine Ex_go 4 (pc' := 26) (L' := [some (.ref 1000), some (.int x1), some (.long x2), none]) (st' := [.int x1, .ref 1009, .long x2]) (σ' := (S, M, O)) (rfl) ?_
      obtain ⟨hc5, hF⟩ := ck_i hF
      refine Ex_chk (b := ib x1 16) (pc' := 27) (L' := [some (.ref 1000), some (.int x1), some (.long x2), none]) (st' := [.long (al M 1009 (Int32.toNatClampNeg x1)), .long x2]) (σ' := (S, M, O)) rfl hc5 ?_
      obtain ⟨hc6, hF⟩ := ck_i hF
      refine Ex_chk (b := nzL (al M 1009 (Int32.toNatClampNeg x1))) (pc' := 28) (L' := [some (.ref 1000), some (.int x1), some (.long x2), none]) (st' := [.long (x2 - x2 / (al M 1009 (Int32.toNatClampNeg x1)) * (al M 1009 (Int32.toNatClampNeg x1)))]) (σ' := (S, M, O)) rfl hc6 ?_
      refine Ex_go 3 (pc' := 33) (L' := [some (.ref 1000), some (.int x1), some (.long x2), none]) (st' := [.int x1, .ref 1010, .long (x2 - x2 / (al M 1009 (Int32.toNatClampNeg x1)) * (al M 1009 (Int32.toNatClampNeg x1)))]) (σ' := (S, M, O)) (rfl) ?_
      obtain ⟨hc7, hF⟩ := ck_i hF
      refine Ex_chk (b := ib x1 16) (pc' := 34) (L' := [some (.ref 1000), some (.int x1), some (.long x2), none]) (st' := [.long (al M 1010 (Int32.toNatClampNeg x1)), .long (x2 - x2 / (al M 1009 (Int32.toNatClampNeg x1)) * (al M 1009 (Int32.toNatClampNeg x1)))]) (σ' := (S, M, O)) rfl hc7 ?_
      refine Ex_go 2 (pc' := if ¬ (lg_cmp (x2 - x2 / (al M 1009 (Int32.toNatClampNeg x1)) * (al M 1009 (Int32.toNatClampNeg x1))) (al M 1010 (Int32.toNatClampNeg x1))) = 0 then 42 else 38) (L' := [some (.ref 1000), some (.int x1), some (.long x2), none]) (st' := []) (σ' := (S, M, O)) (rfl) ?_
      refine Ex_brNI lc_ne (fun hc => ?_) (fun hc => ?_)
      · rw [if_pos hc] at hF
        refine Ex_go 2 (pc' := 43) (L' := [some (.ref 1000), some (.int x1), some (.long x2), none]) (st' := [.int (1 : Int32)]) (σ' := (S, M, O)) (rfl) ?_
        cases hF
        exact Ex_fin rfl
      · rw [if_neg hc] at hF
        refine Ex_go 1 (pc' := 43) (L' := [some (.ref 1000), some (.int x1), some (.long x2), none]) (st' := [.int (0 : Int32)]) (σ' := (S, M, O)) (rfl) ?_
        cases hF
        exact Ex_fin rfl
def F_m_netsOf_35 (k5 : Int64 → Int32 → Int32 → Sto → Option Int32) (x1 : Int64) (x4 : Int32) (s0 : Int32) (s1 : Int32) (M : Sto) : Option Int32 := k5 x1 (s0 ||| s1) (x4 + (1 : Int32)) M
set_option maxRecDepth 100000 in
theorem X_m_netsOf_35 {nL : Nat} {xs : Nat → Int32} {S : Sto} {O : Sto} {d : Nat} (hd : 3 ≤ d) {k5 : Int64 → Int32 → Int32 → Sto → Option Int32} (hk5 : ∀ (x1 : Int64) (x3 : Int32) (x4 : Int32) (M : Sto) (r : Int32), k5 x1 x3 x4 M = some r → EX nL xs 0 MI_128 d 5 [some (.ref 1000), some (.long x1), none, some (.int x3), some (.int x4)] [] (S, M, O) (.inl (some (.int r))) (S, M, O)) : ∀ (x1 : Int64) (x4 : Int32) (s0 : Int32) (s1 : Int32) (M : Sto) (r : Int32), F_m_netsOf_35 k5 x1 x4 s0 s1 M = some r → EX nL xs 0 MI_128 d 35 [some (.ref 1000), some (.long x1), none, none, some (.int x4)] [.int s1, .int s0] (S, M, O) (.inl (some (.int r))) (S, M, O) := by
  intro x1 x4 s0 s1 M r hF
  unfold F_m_netsOf_35 at hF
  refine Ex_go 4 (pc' := 5) (L' := [some (.ref 1000), some (.long x1), none, some (.int (s0 ||| s1)), some (.int (x4 + (1 : Int32)))]) (st' := []) (σ' := (S, M, O)) (rfl) ?_
  exact Ex_mono (L := [some (.ref 1000), some (.long x1), none, some (.int (s0 ||| s1)), some (.int (x4 + (1 : Int32)))]) (Le_s (Le_s (Le_n (Le_s (Le_s (Le_0)))))) (hk5 _ _ _ _ _ hF) (Nat.le_refl _) (by omega)
def F_m_netsOf_5 : Nat → Int64 → Int32 → Int32 → Sto → Option Int32
  | 0, _, _, _, _ => none
  | n + 1, x1, x3, x4, M => if (ai M 1003 (Int32.toNatClampNeg (0 : Int32))) ≤ x4 then some x3 else b1 (F_m_catches x4 x1 M) (fun r1 => if r1 = 0 then F_m_netsOf_35 (F_m_netsOf_5 n) x1 x4 x3 (0 : Int32) M else F_m_netsOf_35 (F_m_netsOf_5 n) x1 x4 x3 ((1 : Int32) <<< (x4 &&& 31)) M)
set_option maxRecDepth 100000 in
theorem X_m_netsOf_5 {nL : Nat} {xs : Nat → Int32} {S : Sto} {O : Sto} {d : Nat} (hd : 3 ≤ d) : ∀ n : Nat, ∀ (x1 : Int64) (x3 : Int32) (x4 : Int32) (M : Sto) (r : Int32), F_m_netsOf_5 n x1 x3 x4 M = some r → EX nL xs 0 MI_128 d 5 [some (.ref 1000), some (.long x1), none, some (.int x3), some (.int x4)] [] (S, M, O) (.inl (some (.int r))) (S, M, O) := by
  intro n
  induction n with
  | zero => intro x1 x3 x4 M r hF; cases hF
  | succ n ih =>
  intro x1 x3 x4 M r hF
  unfold F_m_netsOf_5 at hF
  refine Ex_go 4 (pc' := 12) (L' := [some (.ref 1000), some (.long x1), none, some (.int x3), some (.int x4)]) (st' := [.int (0 : Int32), .ref 1003, .int x4]) (σ' := (S, M, O)) (rfl) ?_
  refine Ex_chk (b := ib (0 : Int32) 6) (pc' := 13) (L' := [some (.ref 1000), some (.long x1), none, some (.int x3), some (.int x4)]) (st' := [.int (ai M 1003 (Int32.toNatClampNeg (0 : Int32))), .int x4]) (σ' := (S, M, O)) rfl (by decide) ?_
  refine Ex_go 1 (pc' := if (ai M 1003 (Int32.toNatClampNeg (0 : Int32))) ≤ x4 then 43 else 16) (L' := [some (.ref 1000), some (.long x1), none, some (.int x3), some (.int x4)]) (st' := []) (σ' := (S, M, O)) (rfl) ?_
  refine Ex_br (fun hc => ?_) (fun hc => ?_)
  · rw [if_pos hc] at hF
    refine Ex_go 1 (pc' := 44) (L' := [some (.ref 1000), some (.long x1), none, some (.int x3), some (.int x4)]) (st' := [.int x3]) (σ' := (S, M, O)) (rfl) ?_
    cases hF
    exact Ex_fin rfl
  · rw [if_neg hc] at hF
    refine Ex_go 4 (pc' := 21) (L' := [some (.ref 1000), some (.long x1), none, some (.int x3), some (.int x4)]) (st' := [.long x1, .int x4, .ref 1000, .int x3]) (σ' := (S, M, O)) (rfl) ?_
    obtain ⟨r1, hx2, hF⟩ := b1_i hF
    refine Ex_call (kind := 2) (y := 127) (as := [.ref 1000, .int x4, .long x1]) (rest := [.int x3]) (L0 := [some (.ref 1000), some (.int x4), some (.long x1), none]) (d' := 2) (v := some (.int r1)) (σ1 := (S, M, O)) rfl rfl mt_127 rfl rfl (by omega) (X_m_catches (Nat.le_refl _) _ _ _ _ hx2) (Ex_st (st2 := [.int r1, .int x3]) rfl ?_)
    refine Ex_go 1 (pc' := if r1 = 0 then 34 else 27) (L' := [some (.ref 1000), some (.long x1), none, some (.int x3), some (.int x4)]) (st' := [.int x3]) (σ' := (S, M, O)) (rfl) ?_
    refine Ex_br (fun hc => ?_) (fun hc => ?_)
    · rw [if_pos hc] at hF
      refine Ex_go 1 (pc' := 35) (L' := [some (.ref 1000), some (.long x1), none, some (.int x3), some (.int x4)]) (st' := [.int (0 : Int32), .int x3]) (σ' := (S, M, O)) (rfl) ?_
      exact Ex_mono (L := [some (.ref 1000), some (.long x1), none, none, some (.int x4)]) (Le_s (Le_s (Le_n (Le_n (Le_s (Le_0)))))) (X_m_netsOf_35 hd ih _ _ _ _ _ _ hF) (Nat.le_refl _) (by omega)
    · rw [if_neg hc] at hF
      refine Ex_go 4 (pc' := 35) (L' := [some (.ref 1000), some (.long x1), none, some (.int x3), some (.int x4)]) (st' := [.int ((1 : Int32) <<< (x4 &&& 31)), .int x3]) (σ' := (S, M, O)) (rfl) ?_
      exact Ex_mono (L := [some (.ref 1000), some (.long x1), none, none, some (.int x4)]) (Le_s (Le_s (Le_n (Le_n (Le_s (Le_0)))))) (X_m_netsOf_35 hd ih _ _ _ _ _ _ hF) (Nat.le_refl _) (by omega)
def F_m_netsOf (x1 : Int64) (M : Sto) : Option Int32 := F_m_netsOf_5 FU x1 (0 : Int32) (0 : Int32) M
set_option maxRecDepth 100000 in
theorem X_m_netsOf {nL : Nat} {xs : Nat → Int32} {S : Sto} {O : Sto} {d : Nat} (hd : 3 ≤ d) : ∀ (x1 : Int64) (M : Sto) (r : Int32), F_m_netsOf x1 M = some r → EX nL xs 0 MI_128 d 0 [some (.ref 1000), some (.long x1), none, none, none] [] (S, M, O) (.inl (some (.int r))) (S, M, O) := by
  intro x1 M r hF
  unfold F_m_netsOf at hF
  refine Ex_go 4 (pc' := 5) (L' := [some (.ref 1000), some (.long x1), none, some (.int (0 : Int32)), some (.int (0 : Int32))]) (st' := []) (σ' := (S, M, O)) (rfl) ?_
  exact Ex_mono (L := [some (.ref 1000), some (.long x1), none, some (.int (0 : Int32)), some (.int (0 : Int32))]) (Le_s (Le_s (Le_n (Le_s (Le_s (Le_0)))))) (X_m_netsOf_5 hd FU _ _ _ _ _ hF) (Nat.le_refl _) (by omega)
def F_m_fail (x1 : Int32) (M : Sto) : Option (Int32 × Sto) := some ((0 : Int32), (si M 1001 x1))
set_option maxRecDepth 100000 in
theorem X_m_fail {nL : Nat} {xs : Nat → Int32} {S : Sto} {O : Sto} {d : Nat} (hd : 1 ≤ d) : ∀ (x1 : Int32) (M : Sto) (r : Int32) (M' : Sto), F_m_fail x1 M = some (r, M') → EX nL xs 0 MI_50 d 0 [some (.ref 1000), some (.int x1)] [] (S, M, O) (.inl (some (.int r))) (S, M', O) := by
  intro x1 M r M' hF
  unfold F_m_fail at hF
  refine Ex_go 4 (pc' := 6) (L' := [some (.ref 1000), some (.int x1)]) (st' := [.int (0 : Int32)]) (σ' := (S, (si M 1001 x1), O)) (rfl) ?_
  cases hF
  exact Ex_fin rfl
def F_m_days_146 (k78 : Int32 → Int32 → Int32 → Int32 → Int32 → Int32 → Sto → Option (Int32 × Sto)) (x2 : Int32) (x3 : Int32) (x4 : Int32) (x5 : Int32) (x6 : Int32) (x7 : Int32) (M : Sto) : Option (Int32 × Sto) := k78 x2 x3 x4 x5 x6 (x7 + (1 : Int32)) M
set_option maxRecDepth 100000 in
theorem X_m_days_146 {nL : Nat} {xs : Nat → Int32} {S : Sto} {O : Sto} {d : Nat} (hd : 6 ≤ d) {k78 : Int32 → Int32 → Int32 → Int32 → Int32 → Int32 → Sto → Option (Int32 × Sto)} (hk78 : ∀ (x2 : Int32) (x3 : Int32) (x4 : Int32) (x5 : Int32) (x6 : Int32) (x7 : Int32) (M : Sto) (r : Int32) (M' : Sto), k78 x2 x3 x4 x5 x6 x7 M = some (r, M') → EX nL xs 0 MI_273 d 78 [some (.ref 1000), none, some (.int x2), some (.int x3), some (.int x4), some (.int x5), some (.int x6), some (.int x7), none, none] [] (S, M, O) (.inl (some (.int r))) (S, M', O)) : ∀ (x2 : Int32) (x3 : Int32) (x4 : Int32) (x5 : Int32) (x6 : Int32) (x7 : Int32) (M : Sto) (r : Int32) (M' : Sto), F_m_days_146 k78 x2 x3 x4 x5 x6 x7 M = some (r, M') → EX nL xs 0 MI_273 d 146 [some (.ref 1000), none, some (.int x2), some (.int x3), some (.int x4), some (.int x5), some (.int x6), some (.int x7), none, none] [] (S, M, O) (.inl (some (.int r))) (S, M', O) := by
  intro x2 x3 x4 x5 x6 x7 M r M' hF
  unfold F_m_days_146 at hF
  refine Ex_go 2 (pc' := 78) (L' := [some (.ref 1000), none, some (.int x2), some (.int x3), some (.int x4), some (.int x5), some (.int x6), some (.int (x7 + (1 : Int32))), none, none]) (st' := []) (σ' := (S, M, O)) (rfl) ?_
  exact Ex_mono (L := [some (.ref 1000), none, some (.int x2), some (.int x3), some (.int x4), some (.int x5), some (.int x6), some (.int (x7 + (1 : Int32))), none, none]) (Le_s (Le_n (Le_s (Le_s (Le_s (Le_s (Le_s (Le_s (Le_n (Le_n (Le_0))))))))))) (hk78 _ _ _ _ _ _ _ _ _ hF) (Nat.le_refl _) (by omega)
def F_m_days_143 (k78 : Int32 → Int32 → Int32 → Int32 → Int32 → Int32 → Sto → Option (Int32 × Sto)) (x2 : Int32) (x3 : Int32) (x4 : Int32) (x5 : Int32) (x6 : Int32) (x7 : Int32) (M : Sto) : Option (Int32 × Sto) := F_m_days_146 k78 x2 x3 x4 x5 (x6 + (1 : Int32)) x7 M
set_option maxRecDepth 100000 in
theorem X_m_days_143 {nL : Nat} {xs : Nat → Int32} {S : Sto} {O : Sto} {d : Nat} (hd : 6 ≤ d) {k78 : Int32 → Int32 → Int32 → Int32 → Int32 → Int32 → Sto → Option (Int32 × Sto)} (hk78 : ∀ (x2 : Int32) (x3 : Int32) (x4 : Int32) (x5 : Int32) (x6 : Int32) (x7 : Int32) (M : Sto) (r : Int32) (M' : Sto), k78 x2 x3 x4 x5 x6 x7 M = some (r, M') → EX nL xs 0 MI_273 d 78 [some (.ref 1000), none, some (.int x2), some (.int x3), some (.int x4), some (.int x5), some (.int x6), some (.int x7), none, none] [] (S, M, O) (.inl (some (.int r))) (S, M', O)) : ∀ (x2 : Int32) (x3 : Int32) (x4 : Int32) (x5 : Int32) (x6 : Int32) (x7 : Int32) (M : Sto) (r : Int32) (M' : Sto), F_m_days_143 k78 x2 x3 x4 x5 x6 x7 M = some (r, M') → EX nL xs 0 MI_273 d 143 [some (.ref 1000), none, some (.int x2), some (.int x3), some (.int x4), some (.int x5), some (.int x6), some (.int x7), none, none] [] (S, M, O) (.inl (some (.int r))) (S, M', O) := by
  intro x2 x3 x4 x5 x6 x7 M r M' hF
  unfold F_m_days_143 at hF
  refine Ex_go 1 (pc' := 146) (L' := [some (.ref 1000), none, some (.int x2), some (.int x3), some (.int x4), some (.int x5), some (.int (x6 + (1 : Int32))), some (.int x7), none, none]) (st' := []) (σ' := (S, M, O)) (rfl) ?_
  exact Ex_mono (L := [some (.ref 1000), none, some (.int x2), some (.int x3), some (.int x4), some (.int x5), some (.int (x6 + (1 : Int32))), some (.int x7), none, none]) (Le_s (Le_n (Le_s (Le_s (Le_s (Le_s (Le_s (Le_s (Le_n (Le_n (Le_0))))))))))) (X_m_days_146 hd hk78 _ _ _ _ _ _ _ _ _ hF) (Nat.le_refl _) (by omega)
def F_m_days_78 : Nat → Int32 → Int32 → Int32 → Int32 → Int32 → Int32 → Sto → Option (Int32 × Sto)
  | 0, _, _, _, _, _, _, _ => none
  | n + 1, x2, x3, x4, x5, x6, x7, M => if x2 ≤ x7 then some (x6, M) else ck (nzI x4) (nm ((gl M 1013) + (Int32.toInt64 (((((x5 * (1103515245 : Int32)) + (12345 : Int32)) >>> ((16 : Int32) &&& 31)) &&& (32767 : Int32)) - ((((x5 * (1103515245 : Int32)) + (12345 : Int32)) >>> ((16 : Int32) &&& 31)) &&& (32767 : Int32)) / x4 * x4))) (fun t2 => if x3 = (-1 : Int32) then b1 (F_m_netsOf t2 M) (fun r6 => if r6 = 0 then F_m_days_143 (F_m_days_78 n) x2 x3 x4 ((x5 * (1103515245 : Int32)) + (12345 : Int32)) x6 x7 M else F_m_days_146 (F_m_days_78 n) x2 x3 x4 ((x5 * (1103515245 : Int32)) + (12345 : Int32)) x6 x7 M) else b1 (F_m_catches x3 t2 M) (fun r4 => if r4 = 0 then F_m_days_146 (F_m_days_78 n) x2 x3 x4 ((x5 * (1103515245 : Int32)) + (12345 : Int32)) x6 x7 M else F_m_days_143 (F_m_days_78 n) x2 x3 x4 ((x5 * (1103515245 : Int32)) + (12345 : Int32)) x6 x7 M)))
set_option maxRecDepth 100000 in
theorem X_m_days_78 {nL : Nat} {xs : Nat → Int32} {S : Sto} {O : Sto} {d : Nat} (hd : 6 ≤ d) : ∀ n : Nat, ∀ (x2 : Int32) (x3 : Int32) (x4 : Int32) (x5 : Int32) (x6 : Int32) (x7 : Int32) (M : Sto) (r : Int32) (M' : Sto), F_m_days_78 n x2 x3 x4 x5 x6 x7 M = some (r, M') → EX nL xs 0 MI_273 d 78 [some (.ref 1000), none, some (.int x2), some (.int x3), some (.int x4), some (.int x5), some (.int x6), some (.int x7), none, none] [] (S, M, O) (.inl (some (.int r))) (S, M', O) := by
  intro n
  induction n with
  | zero => intro x2 x3 x4 x5 x6 x7 M r M' hF; cases hF
  | succ n ih =>
  intro x2 x3 x4 x5 x6 x7 M r M' hF
  unfold F_m_days_78 at hF
  refine Ex_go 3 (pc' := if x2 ≤ x7 then 152 else 84) (L' := [some (.ref 1000), none, some (.int x2), some (.int x3), some (.int x4), some (.int x5), some (.int x6), some (.int x7), none, none]) (st' := []) (σ' := (S, M, O)) (rfl) ?_
  refine Ex_br (fun hc => ?_) (fun hc => ?_)
  · rw [if_pos hc] at hF
    refine Ex_go 1 (pc' := 154) (L' := [some (.ref 1000), none, some (.int x2), some (.int x3), some (.int x4), some (.int x5), some (.int x6), some (.int x7), none, none]) (st' := [.int x6]) (σ' := (S, M, O)) (rfl) ?_
    cases hF
    exact Ex_fin rfl
  · rw [if_neg hc] at hF
    refine Ex_go 10 (pc' := 104) (L' := [some (.ref 1000), none, some (.int x2), some (.int x3), some (.int x4), some (.int ((x5 * (1103515245 : Int32)) + (12345 : Int32))), some (.int x6), some (.int x7), none, none]) (st' := [.int (16 : Int32), .int ((x5 * (1103515245 : Int32)) + (12345 : Int32)), .long (gl M 1013)]) (σ' := (S, M, O)) (rfl) ?_
    refine Ex_go 4 (pc' := 111) (L' := [some (.ref 1000), none, some (.int x2), some (.int x3), some (.int x4), some (.int ((x5 * (1103515245 : Int32)) + (12345 : Int32))), some (.int x6), some (.int x7), none, none]) (st' := [.int x4, .int ((((x5 * (1103515245 : Int32)) + (12345 : Int32)) >>> ((16 : Int32) &&& 31)) &&& (32767 : Int32)), .long (gl M 1013)]) (σ' := (S, M, O)) (rfl) ?_
    obtain ⟨hc1, hF⟩ := ck_i hF
    refine Ex_chk (b := nzI x4) (pc' := 112) (L' := [some (.ref 1000), none, some (.int x2), some (.int x3), some (.int x4), some (.int ((x5 * (1103515245 : Int32)) + (12345 : Int32))), some (.int x6), some (.int x7), none, none]) (st' := [.int (((((x5 * (1103515245 : Int32)) + (12345 : Int32)) >>> ((16 : Int32) &&& 31)) &&& (32767 : Int32)) - ((((x5 * (1103515245 : Int32)) + (12345 : Int32)) >>> ((16 : Int32) &&& 31)) &&& (32767 : Int32)) / x4 * x4), .long (gl M 1013)]) (σ' := (S, M, O)) rfl hc1 ?_
    obtain ⟨t2, ht3, hF⟩ := nm_i hF
    refine Ex_go 3 (pc' := 116) (L' := [some (.ref 1000), none, some (.int x2), some (.int x3), some (.int x4), some (.int ((x5 * (1103515245 : Int32)) + (12345 : Int32))), some (.int x6), some (.int x7), some (.long t2), none]) (st' := []) (σ' := (S, M, O)) (by rw [ht3]; rfl) ?_
    refine Ex_go 3 (pc' := if ¬ x3 = (-1 : Int32) then 133 else 121) (L' := [some (.ref 1000), none, some (.int x2), some (.int x3), some (.int x4), some (.int ((x5 * (1103515245 : Int32)) + (12345 : Int32))), some (.int x6), some (.int x7), some (.long t2), none]) (st' := []) (σ' := (S, M, O)) (rfl) ?_
    refine Ex_brN (fun hc => ?_) (fun hc => ?_)
    · rw [if_pos hc] at hF
      refine Ex_go 2 (pc' := 124) (L' := [some (.ref 1000), none, some (.int x2), some (.int x3), some (.int x4), some (.int ((x5 * (1103515245 : Int32)) + (12345 : Int32))), some (.int x6), some (.int x7), some (.long t2), none]) (st' := [.long t2, .ref 1000]) (σ' := (S, M, O)) (rfl) ?_
      obtain ⟨r6, hx7, hF⟩ := b1_i hF
      refine Ex_call (kind := 2) (y := 128) (as := [.ref 1000, .long t2]) (rest := []) (L0 := [some (.ref 1000), some (.long t2), none, none, none]) (d' := 3) (v := some (.int r6)) (σ1 := (S, M, O)) rfl rfl mt_128 rfl rfl (by omega) (X_m_netsOf (Nat.le_refl _) _ _ _ hx7) (Ex_st (st2 := [.int r6]) rfl ?_)
      refine Ex_go 1 (pc' := if ¬ r6 = 0 then 146 else 130) (L' := [some (.ref 1000), none, some (.int x2), some (.int x3), some (.int x4), some (.int ((x5 * (1103515245 : Int32)) + (12345 : Int32))), some (.int x6), some (.int x7), some (.long t2), none]) (st' := []) (σ' := (S, M, O)) (rfl) ?_
      refine Ex_brN (fun hc => ?_) (fun hc => ?_)
      · rw [if_pos hc] at hF
        refine Ex_go 1 (pc' := 143) (L' := [some (.ref 1000), none, some (.int x2), some (.int x3), some (.int x4), some (.int ((x5 * (1103515245 : Int32)) + (12345 : Int32))), some (.int x6), some (.int x7), some (.long t2), none]) (st' := []) (σ' := (S, M, O)) (rfl) ?_
        exact Ex_mono (L := [some (.ref 1000), none, some (.int x2), some (.int x3), some (.int x4), some (.int ((x5 * (1103515245 : Int32)) + (12345 : Int32))), some (.int x6), some (.int x7), none, none]) (Le_s (Le_n (Le_s (Le_s (Le_s (Le_s (Le_s (Le_s (Le_n (Le_n (Le_0))))))))))) (X_m_days_143 hd ih _ _ _ _ _ _ _ _ _ hF) (Nat.le_refl _) (by omega)
      · rw [if_neg hc] at hF
        exact Ex_mono (L := [some (.ref 1000), none, some (.int x2), some (.int x3), some (.int x4), some (.int ((x5 * (1103515245 : Int32)) + (12345 : Int32))), some (.int x6), some (.int x7), none, none]) (Le_s (Le_n (Le_s (Le_s (Le_s (Le_s (Le_s (Le_s (Le_n (Le_n (Le_0))))))))))) (X_m_days_146 hd ih _ _ _ _ _ _ _ _ _ hF) (Nat.le_refl _) (by omega)
    · rw [if_neg hc] at hF
      refine Ex_go 3 (pc' := 137) (L' := [some (.ref 1000), none, some (.int x2), some (.int x3), some (.int x4), some (.int ((x5 * (1103515245 : Int32)) + (12345 : Int32))), some (.int x6), some (.int x7), some (.long t2), none]) (st' := [.long t2, .int x3, .ref 1000]) (σ' := (S, M, O)) (rfl) ?_
      obtain ⟨r4, hx5, hF⟩ := b1_i hF
      refine Ex_call (kind := 2) (y := 127) (as := [.ref 1000, .int x3, .long t2]) (rest := []) (L0 := [some (.ref 1000), some (.int x3), some (.long t2), none]) (d' := 2) (v := some (.int r4)) (σ1 := (S, M, O)) rfl rfl mt_127 rfl rfl (by omega) (X_m_catches (Nat.le_refl _) _ _ _ _ hx5) (Ex_st (st2 := [.int r4]) rfl ?_)
      refine Ex_go 1 (pc' := if r4 = 0 then 146 else 143) (L' := [some (.ref 1000), none, some (.int x2), some (.int x3), some (.int x4), some (.int ((x5 * (1103515245 : Int32)) + (12345 : Int32))), some (.int x6), some (.int x7), some (.long t2), none]) (st' := []) (σ' := (S, M, O)) (rfl) ?_
      refine Ex_br (fun hc => ?_) (fun hc => ?_)
      · rw [if_pos hc] at hF
        exact Ex_mono (L := [some (.ref 1000), none, some (.int x2), some (.int x3), some (.int x4), some (.int ((x5 * (1103515245 : Int32)) + (12345 : Int32))), some (.int x6), some (.int x7), none, none]) (Le_s (Le_n (Le_s (Le_s (Le_s (Le_s (Le_s (Le_s (Le_n (Le_n (Le_0))))))))))) (X_m_days_146 hd ih _ _ _ _ _ _ _ _ _ hF) (Nat.le_refl _) (by omega)
      · rw [if_neg hc] at hF
        exact Ex_mono (L := [some (.ref 1000), none, some (.int x2), some (.int x3), some (.int x4), some (.int ((x5 * (1103515245 : Int32)) + (12345 : Int32))), some (.int x6), some (.int x7), none, none]) (Le_s (Le_n (Le_s (Le_s (Le_s (Le_s (Le_s (Le_s (Le_n (Le_n (Le_0))))))))))) (X_m_days_143 hd ih _ _ _ _ _ _ _ _ _ hF) (Nat.le_refl _) (by omega)
def F_m_days (x1 : Int32) (x2 : Int32) (x3 : Int32) (M : Sto) : Option (Int32 × Sto) := b1 (F_m_isIn (Int32.toInt64 x3) (-1 : Int64) (Int32.toInt64 ((ai (si M 1001 (0 : Int32)) 1003 (Int32.toNatClampNeg (0 : Int32))) - (1 : Int32)))) (fun r1 => if r1 = 0 then b2 (F_m_fail (1 : Int32) (si M 1001 (0 : Int32))) (fun r10 M12 => some (r10, M12)) else b1 (F_m_isIn (Int32.toInt64 x2) (0 : Int64) (300 : Int64)) (fun r3 => if r3 = 0 then b2 (F_m_fail (2 : Int32) (si M 1001 (0 : Int32))) (fun r7 M9 => some (r7, M9)) else nm (Int64.toInt32 (mnL (32768 : Int64) (((gl (si M 1001 (0 : Int32)) 1014) - (gl (si M 1001 (0 : Int32)) 1013)) + (1 : Int64)))) (fun t5 => F_m_days_78 FU x2 x3 t5 x1 (0 : Int32) (0 : Int32) (si M 1001 (0 : Int32)))))
set_option maxRecDepth 100000 in
theorem X_m_days {nL : Nat} {xs : Nat → Int32} {S : Sto} {O : Sto} {d : Nat} (hd : 6 ≤ d) : ∀ (x1 : Int32) (x2 : Int32) (x3 : Int32) (M : Sto) (r : Int32) (M' : Sto), F_m_days x1 x2 x3 M = some (r, M') → EX nL xs 0 MI_273 d 0 [some (.ref 1000), some (.int x1), some (.int x2), some (.int x3), none, none, none, none, none, none] [] (S, M, O) (.inl (some (.int r))) (S, M', O) := by
  intro x1 x2 x3 M r M' hF
  unfold F_m_days at hF
  refine Ex_go 9 (pc' := 15) (L' := [some (.ref 1000), some (.int x1), some (.int x2), some (.int x3), none, none, none, none, none, none]) (st' := [.int (0 : Int32), .ref 1003, .long (-1 : Int64), .long (Int32.toInt64 x3)]) (σ' := (S, (si M 1001 (0 : Int32)), O)) (rfl) ?_
  refine Ex_chk (b := ib (0 : Int32) 6) (pc' := 16) (L' := [some (.ref 1000), some (.int x1), some (.int x2), some (.int x3), none, none, none, none, none, none]) (st' := [.int (ai (si M 1001 (0 : Int32)) 1003 (Int32.toNatClampNeg (0 : Int32))), .long (-1 : Int64), .long (Int32.toInt64 x3)]) (σ' := (S, (si M 1001 (0 : Int32)), O)) rfl (by decide) ?_
  refine Ex_go 3 (pc' := 19) (L' := [some (.ref 1000), some (.int x1), some (.int x2), some (.int x3), none, none, none, none, none, none]) (st' := [.long (Int32.toInt64 ((ai (si M 1001 (0 : Int32)) 1003 (Int32.toNatClampNeg (0 : Int32))) - (1 : Int32))), .long (-1 : Int64), .long (Int32.toInt64 x3)]) (σ' := (S, (si M 1001 (0 : Int32)), O)) (rfl) ?_
  obtain ⟨r1, hx2, hF⟩ := b1_i hF
  refine Ex_call (kind := 0) (y := 91) (as := [.long (Int32.toInt64 x3), .long (-1 : Int64), .long (Int32.toInt64 ((ai (si M 1001 (0 : Int32)) 1003 (Int32.toNatClampNeg (0 : Int32))) - (1 : Int32)))]) (rest := []) (L0 := [some (.long (Int32.toInt64 x3)), none, some (.long (-1 : Int64)), none, some (.long (Int32.toInt64 ((ai (si M 1001 (0 : Int32)) 1003 (Int32.toNatClampNeg (0 : Int32))) - (1 : Int32)))), none]) (d' := 1) (v := some (.int r1)) (σ1 := (S, (si M 1001 (0 : Int32)), O)) rfl rfl mt_91 rfl rfl (by omega) (X_m_isIn (Nat.le_refl _) _ _ _ _ hx2) (Ex_st (st2 := [.int r1]) rfl ?_)
  refine Ex_go 1 (pc' := if ¬ r1 = 0 then 31 else 25) (L' := [some (.ref 1000), some (.int x1), some (.int x2), some (.int x3), none, none, none, none, none, none]) (st' := []) (σ' := (S, (si M 1001 (0 : Int32)), O)) (rfl) ?_
  refine Ex_brN (fun hc => ?_) (fun hc => ?_)
  · rw [if_pos hc] at hF
    refine Ex_go 2 (pc' := 27) (L' := [some (.ref 1000), some (.int x1), some (.int x2), some (.int x3), none, none, none, none, none, none]) (st' := [.int (1 : Int32), .ref 1000]) (σ' := (S, (si M 1001 (0 : Int32)), O)) (rfl) ?_
    obtain ⟨r10, M12, hx11, hF⟩ := b2_i hF
    refine Ex_call (kind := 2) (y := 50) (as := [.ref 1000, .int (1 : Int32)]) (rest := []) (L0 := [some (.ref 1000), some (.int (1 : Int32))]) (d' := 1) (v := some (.int r10)) (σ1 := (S, M12, O)) rfl rfl mt_50 rfl rfl (by omega) (X_m_fail (Nat.le_refl _) _ _ _ _ hx11) (Ex_st (st2 := [.int r10]) rfl ?_)
    cases hF
    exact Ex_fin rfl
  · rw [if_neg hc] at hF
    refine Ex_go 4 (pc' := 37) (L' := [some (.ref 1000), some (.int x1), some (.int x2), some (.int x3), none, none, none, none, none, none]) (st' := [.long (300 : Int64), .long (0 : Int64), .long (Int32.toInt64 x2)]) (σ' := (S, (si M 1001 (0 : Int32)), O)) (rfl) ?_
    obtain ⟨r3, hx4, hF⟩ := b1_i hF
    refine Ex_call (kind := 0) (y := 91) (as := [.long (Int32.toInt64 x2), .long (0 : Int64), .long (300 : Int64)]) (rest := []) (L0 := [some (.long (Int32.toInt64 x2)), none, some (.long (0 : Int64)), none, some (.long (300 : Int64)), none]) (d' := 1) (v := some (.int r3)) (σ1 := (S, (si M 1001 (0 : Int32)), O)) rfl rfl mt_91 rfl rfl (by omega) (X_m_isIn (Nat.le_refl _) _ _ _ _ hx4) (Ex_st (st2 := [.int r3]) rfl ?_)
    refine Ex_go 1 (pc' := if ¬ r3 = 0 then 49 else 43) (L' := [some (.ref 1000), some (.int x1), some (.int x2), some (.int x3), none, none, none, none, none, none]) (st' := []) (σ' := (S, (si M 1001 (0 : Int32)), O)) (rfl) ?_
    refine Ex_brN (fun hc => ?_) (fun hc => ?_)
    · rw [if_pos hc] at hF
      refine Ex_go 2 (pc' := 45) (L' := [some (.ref 1000), some (.int x1), some (.int x2), some (.int x3), none, none, none, none, none, none]) (st' := [.int (2 : Int32), .ref 1000]) (σ' := (S, (si M 1001 (0 : Int32)), O)) (rfl) ?_
      obtain ⟨r7, M9, hx8, hF⟩ := b2_i hF
      refine Ex_call (kind := 2) (y := 50) (as := [.ref 1000, .int (2 : Int32)]) (rest := []) (L0 := [some (.ref 1000), some (.int (2 : Int32))]) (d' := 1) (v := some (.int r7)) (σ1 := (S, M9, O)) rfl rfl mt_50 rfl rfl (by omega) (X_m_fail (Nat.le_refl _) _ _ _ _ hx8) (Ex_st (st2 := [.int r7]) rfl ?_)
      cases hF
      exact Ex_fin rfl
    · rw [if_neg hc] at hF
      refine Ex_go 8 (pc' := 63) (L' := [some (.ref 1000), some (.int x1), some (.int x2), some (.int x3), none, none, none, none, none, none]) (st' := [.long (((gl (si M 1001 (0 : Int32)) 1014) - (gl (si M 1001 (0 : Int32)) 1013)) + (1 : Int64)), .long (32768 : Int64)]) (σ' := (S, (si M 1001 (0 : Int32)), O)) (rfl) ?_
      refine Ex_blt (kind := 12) (y := 0) (as := [.long (32768 : Int64), .long (((gl (si M 1001 (0 : Int32)) 1014) - (gl (si M 1001 (0 : Int32)) 1013)) + (1 : Int64))]) (rest := []) (v := .long (mnL (32768 : Int64) (((gl (si M 1001 (0 : Int32)) 1014) - (gl (si M 1001 (0 : Int32)) 1013)) + (1 : Int64)))) rfl rfl (by omega) ?_
      obtain ⟨t5, ht6, hF⟩ := nm_i hF
      refine Ex_go 2 (pc' := 69) (L' := [some (.ref 1000), some (.int x1), some (.int x2), some (.int x3), some (.int t5), none, none, none, none, none]) (st' := []) (σ' := (S, (si M 1001 (0 : Int32)), O)) (by rw [ht6]; rfl) ?_
      refine Ex_go 6 (pc' := 78) (L' := [some (.ref 1000), some (.int x1), some (.int x2), some (.int x3), some (.int t5), some (.int x1), some (.int (0 : Int32)), some (.int (0 : Int32)), none, none]) (st' := []) (σ' := (S, (si M 1001 (0 : Int32)), O)) (rfl) ?_
      exact Ex_mono (L := [some (.ref 1000), none, some (.int x2), some (.int x3), some (.int t5), some (.int x1), some (.int (0 : Int32)), some (.int (0 : Int32)), none, none]) (Le_s (Le_n (Le_s (Le_s (Le_s (Le_s (Le_s (Le_s (Le_n (Le_n (Le_0))))))))))) (X_m_days_78 hd FU _ _ _ _ _ _ _ _ _ hF) (Nat.le_refl _) (by omega)
def F_m_thrown (M : Sto) : Option Int32 := some (gi M 1001)
set_option maxRecDepth 100000 in
theorem X_m_thrown {nL : Nat} {xs : Nat → Int32} {S : Sto} {O : Sto} {d : Nat} (hd : 1 ≤ d) : ∀ (M : Sto) (r : Int32), F_m_thrown M = some r → EX nL xs 0 MI_77 d 0 [some (.ref 1000)] [] (S, M, O) (.inl (some (.int r))) (S, M, O) := by
  intro M r hF
  unfold F_m_thrown at hF
  refine Ex_go 2 (pc' := 4) (L' := [some (.ref 1000)]) (st' := [.int (gi M 1001)]) (σ' := (S, M, O)) (rfl) ?_
  cases hF
  exact Ex_fin rfl
def F_Sh_has (x1 : Int32) (S : Sto) : Option Int32 := if x1 < 0 then some (0 : Int32) else if (gi S 25) ≤ x1 then some (0 : Int32) else if (256 : Int32) ≤ x1 then some (0 : Int32) else some (1 : Int32)
set_option maxRecDepth 100000 in
theorem X_Sh_has {nL : Nat} {xs : Nat → Int32} {M : Sto} {O : Sto} {d : Nat} (hd : 1 ≤ d) : ∀ (x1 : Int32) (S : Sto) (r : Int32), F_Sh_has x1 S = some r → EX nL xs 0 MI_40 d 0 [some (.ref 21), some (.int x1)] [] (S, M, O) (.inl (some (.int r))) (S, M, O) := by
  intro x1 S r hF
  unfold F_Sh_has at hF
  refine Ex_go 2 (pc' := if x1 < 0 then 23 else 4) (L' := [some (.ref 21), some (.int x1)]) (st' := []) (σ' := (S, M, O)) (rfl) ?_
  refine Ex_br (fun hc => ?_) (fun hc => ?_)
  · rw [if_pos hc] at hF
    refine Ex_go 1 (pc' := 24) (L' := [some (.ref 21), some (.int x1)]) (st' := [.int (0 : Int32)]) (σ' := (S, M, O)) (rfl) ?_
    cases hF
    exact Ex_fin rfl
  · rw [if_neg hc] at hF
    refine Ex_go 4 (pc' := if (gi S 25) ≤ x1 then 23 else 12) (L' := [some (.ref 21), some (.int x1)]) (st' := []) (σ' := (S, M, O)) (rfl) ?_
    refine Ex_br (fun hc => ?_) (fun hc => ?_)
    · rw [if_pos hc] at hF
      refine Ex_go 1 (pc' := 24) (L' := [some (.ref 21), some (.int x1)]) (st' := [.int (0 : Int32)]) (σ' := (S, M, O)) (rfl) ?_
      cases hF
      exact Ex_fin rfl
    · rw [if_neg hc] at hF
      refine Ex_go 3 (pc' := if (256 : Int32) ≤ x1 then 23 else 19) (L' := [some (.ref 21), some (.int x1)]) (st' := []) (σ' := (S, M, O)) (rfl) ?_
      refine Ex_br (fun hc => ?_) (fun hc => ?_)
      · rw [if_pos hc] at hF
        refine Ex_go 1 (pc' := 24) (L' := [some (.ref 21), some (.int x1)]) (st' := [.int (0 : Int32)]) (σ' := (S, M, O)) (rfl) ?_
        cases hF
        exact Ex_fin rfl
      · rw [if_neg hc] at hF
        refine Ex_go 2 (pc' := 24) (L' := [some (.ref 21), some (.int x1)]) (st' := [.int (1 : Int32)]) (σ' := (S, M, O)) (rfl) ?_
        cases hF
        exact Ex_fin rfl
def F_Sh_firstFrom_19 (S : Sto) : Option Int64 := some (-1 : Int64)
set_option maxRecDepth 100000 in
theorem X_Sh_firstFrom_19 {nL : Nat} {xs : Nat → Int32} {M : Sto} {O : Sto} {d : Nat} (hd : 6 ≤ d) : ∀ (S : Sto) (r : Int64), F_Sh_firstFrom_19 S = some r → EX nL xs 0 MI_130 d 19 [none, none, none, none, none, none, none, none, none, none] [] (S, M, O) (.inl (some (.long r))) (S, M, O) := by
  intro S r hF
  unfold F_Sh_firstFrom_19 at hF
  refine Ex_go 1 (pc' := 22) (L' := [none, none, none, none, none, none, none, none, none, none]) (st' := [.long (-1 : Int64)]) (σ' := (S, M, O)) (rfl) ?_
  cases hF
  exact Ex_fin rfl
def F_Sh_firstFrom_78 (x1 : Int32) (s0 : Int64) (s1 : Int64) (S : Sto) : Option Int64 := ck (ib x1 256) (if (al S 25 (Int32.toNatClampNeg x1)) < (s0 + s1) then some (-1 : Int64) else some (s0 + s1))
set_option maxRecDepth 100000 in
theorem X_Sh_firstFrom_78 {nL : Nat} {xs : Nat → Int32} {M : Sto} {O : Sto} {d : Nat} (hd : 6 ≤ d) : ∀ (x1 : Int32) (s0 : Int64) (s1 : Int64) (S : Sto) (r : Int64), F_Sh_firstFrom_78 x1 s0 s1 S = some r → EX nL xs 0 MI_130 d 78 [some (.ref 21), some (.int x1), none, none, none, none, none, none, none, none] [.long s1, .long s0] (S, M, O) (.inl (some (.long r))) (S, M, O) := by
  intro x1 s0 s1 S r hF
  unfold F_Sh_firstFrom_78 at hF
  refine Ex_go 6 (pc' := 88) (L' := [some (.ref 21), some (.int x1), none, none, none, none, none, none, some (.long (s0 + s1)), none]) (st' := [.int x1, .ref 25, .long (s0 + s1)]) (σ' := (S, M, O)) (rfl) ?_
  obtain ⟨hc1, hF⟩ := ck_i hF
  refine Ex_chk (b := ib x1 256) (pc' := 89) (L' := [some (.ref 21), some (.int x1), none, none, none, none, none, none, some (.long (s0 + s1)), none]) (st' := [.long (al S 25 (Int32.toNatClampNeg x1)), .long (s0 + s1)]) (σ' := (S, M, O)) rfl hc1 ?_
  refine Ex_go 2 (pc' := if 0 < (lg_cmp (s0 + s1) (al S 25 (Int32.toNatClampNeg x1))) then 98 else 93) (L' := [some (.ref 21), some (.int x1), none, none, none, none, none, none, some (.long (s0 + s1)), none]) (st' := []) (σ' := (S, M, O)) (rfl) ?_
  refine Ex_brI lc_gt (fun hc => ?_) (fun hc => ?_)
  · rw [if_pos hc] at hF
    refine Ex_go 1 (pc' := 101) (L' := [some (.ref 21), some (.int x1), none, none, none, none, none, none, some (.long (s0 + s1)), none]) (st' := [.long (-1 : Int64)]) (σ' := (S, M, O)) (rfl) ?_
    cases hF
    exact Ex_fin rfl
  · rw [if_neg hc] at hF
    refine Ex_go 2 (pc' := 101) (L' := [some (.ref 21), some (.int x1), none, none, none, none, none, none, some (.long (s0 + s1)), none]) (st' := [.long (s0 + s1)]) (σ' := (S, M, O)) (rfl) ?_
    cases hF
    exact Ex_fin rfl
def F_Sh_firstFrom (x1 : Int32) (x2 : Int64) (S : Sto) : Option Int64 := b1 (F_Sh_has x1 S) (fun r1 => if r1 = 0 then F_Sh_firstFrom_19 S else ck (ib x1 256) (if (1 : Int64) ≤ (al S 22 (Int32.toNatClampNeg x1)) then ck (ib x1 256) (ck (ib x1 256) (ck (ib x1 256) (b1 (F_w_remainder ((al S 23 (Int32.toNatClampNeg x1)) - (mxL x2 (al S 24 (Int32.toNatClampNeg x1)))) (al S 22 (Int32.toNatClampNeg x1))) (fun r7 => if (0 : Int64) ≤ r7 then F_Sh_firstFrom_78 x1 (mxL x2 (al S 24 (Int32.toNatClampNeg x1))) r7 S else ck (ib x1 256) (F_Sh_firstFrom_78 x1 (mxL x2 (al S 24 (Int32.toNatClampNeg x1))) (r7 + (al S 22 (Int32.toNatClampNeg x1))) S))))) else F_Sh_firstFrom_19 S))
set_option maxRecDepth 100000 in
theorem X_Sh_firstFrom {nL : Nat} {xs : Nat → Int32} {M : Sto} {O : Sto} {d : Nat} (hd : 6 ≤ d) : ∀ (x1 : Int32) (x2 : Int64) (S : Sto) (r : Int64), F_Sh_firstFrom x1 x2 S = some r → EX nL xs 0 MI_130 d 0 [some (.ref 21), some (.int x1), some (.long x2), none, none, none, none, none, none, none] [] (S, M, O) (.inl (some (.long r))) (S, M, O) := by
  intro x1 x2 S r hF
  unfold F_Sh_firstFrom at hF
  refine Ex_go 2 (pc' := 2) (L' := [some (.ref 21), some (.int x1), some (.long x2), none, none, none, none, none, none, none]) (st' := [.int x1, .ref 21]) (σ' := (S, M, O)) (rfl) ?_
  obtain ⟨r1, hx2, hF⟩ := b1_i hF
  refine Ex_call (kind := 2) (y := 40) (as := [.ref 21, .int x1]) (rest := []) (L0 := [some (.ref 21), some (.int x1)]) (d' := 1) (v := some (.int r1)) (σ1 := (S, M, O)) rfl rfl mt_40 rfl rfl (by omega) (X_Sh_has (Nat.le_refl _) _ _ _ hx2) (Ex_st (st2 := [.int r1]) rfl ?_)
  refine Ex_go 1 (pc' := if r1 = 0 then 19 else 8) (L' := [some (.ref 21), some (.int x1), some (.long x2), none, none, none, none, none, none, none]) (st' := []) (σ' := (S, M, O)) (rfl) ?_
  refine Ex_br (fun hc => ?_) (fun hc => ?_)
  · rw [if_pos hc] at hF
    exact Ex_mono (L := [none, none, none, none, none, none, none, none, none, none]) (Le_n (Le_n (Le_n (Le_n (Le_n (Le_n (Le_n (Le_n (Le_n (Le_n (Le_0))))))))))) (X_Sh_firstFrom_19 hd _ _ hF) (Nat.le_refl _) (by omega)
  · rw [if_neg hc] at hF
    refine Ex_go 3 (pc' := 13) (L' := [some (.ref 21), some (.int x1), some (.long x2), none, none, none, none, none, none, none]) (st' := [.int x1, .ref 22]) (σ' := (S, M, O)) (rfl) ?_
    obtain ⟨hc3, hF⟩ := ck_i hF
    refine Ex_chk (b := ib x1 256) (pc' := 14) (L' := [some (.ref 21), some (.int x1), some (.long x2), none, none, none, none, none, none, none]) (st' := [.long (al S 22 (Int32.toNatClampNeg x1))]) (σ' := (S, M, O)) rfl hc3 ?_
    refine Ex_go 3 (pc' := if 0 ≤ (lg_cmp (al S 22 (Int32.toNatClampNeg x1)) (1 : Int64)) then 23 else 19) (L' := [some (.ref 21), some (.int x1), some (.long x2), none, none, none, none, none, none, none]) (st' := []) (σ' := (S, M, O)) (rfl) ?_
    refine Ex_brI lc_ge (fun hc => ?_) (fun hc => ?_)
    · rw [if_pos hc] at hF
      refine Ex_go 4 (pc' := 29) (L' := [some (.ref 21), some (.int x1), some (.long x2), none, none, none, none, none, none, none]) (st' := [.int x1, .ref 24, .long x2]) (σ' := (S, M, O)) (rfl) ?_
      obtain ⟨hc4, hF⟩ := ck_i hF
      refine Ex_chk (b := ib x1 256) (pc' := 30) (L' := [some (.ref 21), some (.int x1), some (.long x2), none, none, none, none, none, none, none]) (st' := [.long (al S 24 (Int32.toNatClampNeg x1)), .long x2]) (σ' := (S, M, O)) rfl hc4 ?_
      refine Ex_blt (kind := 11) (y := 0) (as := [.long x2, .long (al S 24 (Int32.toNatClampNeg x1))]) (rest := []) (v := .long (mxL x2 (al S 24 (Int32.toNatClampNeg x1)))) rfl rfl (by omega) ?_
      refine Ex_go 4 (pc' := 40) (L' := [some (.ref 21), some (.int x1), some (.long x2), none, some (.long (mxL x2 (al S 24 (Int32.toNatClampNeg x1)))), none, none, none, none, none]) (st' := [.int x1, .ref 23]) (σ' := (S, M, O)) (rfl) ?_
      obtain ⟨hc5, hF⟩ := ck_i hF
      refine Ex_chk (b := ib x1 256) (pc' := 41) (L' := [some (.ref 21), some (.int x1), some (.long x2), none, some (.long (mxL x2 (al S 24 (Int32.toNatClampNeg x1)))), none, none, none, none, none]) (st' := [.long (al S 23 (Int32.toNatClampNeg x1))]) (σ' := (S, M, O)) rfl hc5 ?_
      refine Ex_go 5 (pc' := 49) (L' := [some (.ref 21), some (.int x1), some (.long x2), none, some (.long (mxL x2 (al S 24 (Int32.toNatClampNeg x1)))), none, none, none, none, none]) (st' := [.int x1, .ref 22, .long ((al S 23 (Int32.toNatClampNeg x1)) - (mxL x2 (al S 24 (Int32.toNatClampNeg x1))))]) (σ' := (S, M, O)) (rfl) ?_
      obtain ⟨hc6, hF⟩ := ck_i hF
      refine Ex_chk (b := ib x1 256) (pc' := 50) (L' := [some (.ref 21), some (.int x1), some (.long x2), none, some (.long (mxL x2 (al S 24 (Int32.toNatClampNeg x1)))), none, none, none, none, none]) (st' := [.long (al S 22 (Int32.toNatClampNeg x1)), .long ((al S 23 (Int32.toNatClampNeg x1)) - (mxL x2 (al S 24 (Int32.toNatClampNeg x1))))]) (σ' := (S, M, O)) rfl hc6 ?_
      obtain ⟨r7, hx8, hF⟩ := b1_i hF
      refine Ex_call (kind := 1) (y := 41) (as := [.long ((al S 23 (Int32.toNatClampNeg x1)) - (mxL x2 (al S 24 (Int32.toNatClampNeg x1)))), .long (al S 22 (Int32.toNatClampNeg x1))]) (rest := []) (L0 := [some (.long ((al S 23 (Int32.toNatClampNeg x1)) - (mxL x2 (al S 24 (Int32.toNatClampNeg x1))))), none, some (.long (al S 22 (Int32.toNatClampNeg x1))), none]) (d' := 1) (v := some (.long r7)) (σ1 := (S, M, O)) rfl rfl mt_41 rfl rfl (by omega) (X_w_remainder (Nat.le_refl _) _ _ _ hx8) (Ex_st (st2 := [.long r7]) rfl ?_)
      refine Ex_go 6 (pc' := if 0 ≤ (lg_cmp r7 (0 : Int64)) then 76 else 64) (L' := [some (.ref 21), some (.int x1), some (.long x2), none, some (.long (mxL x2 (al S 24 (Int32.toNatClampNeg x1)))), none, some (.long r7), none, none, none]) (st' := [.long (mxL x2 (al S 24 (Int32.toNatClampNeg x1)))]) (σ' := (S, M, O)) (rfl) ?_
      refine Ex_brI lc_ge (fun hc => ?_) (fun hc => ?_)
      · rw [if_pos hc] at hF
        refine Ex_go 1 (pc' := 78) (L' := [some (.ref 21), some (.int x1), some (.long x2), none, some (.long (mxL x2 (al S 24 (Int32.toNatClampNeg x1)))), none, some (.long r7), none, none, none]) (st' := [.long r7, .long (mxL x2 (al S 24 (Int32.toNatClampNeg x1)))]) (σ' := (S, M, O)) (rfl) ?_
        exact Ex_mono (L := [some (.ref 21), some (.int x1), none, none, none, none, none, none, none, none]) (Le_s (Le_s (Le_n (Le_n (Le_n (Le_n (Le_n (Le_n (Le_n (Le_n (Le_0))))))))))) (X_Sh_firstFrom_78 hd _ _ _ _ _ hF) (Nat.le_refl _) (by omega)
      · rw [if_neg hc] at hF
        refine Ex_go 4 (pc' := 71) (L' := [some (.ref 21), some (.int x1), some (.long x2), none, some (.long (mxL x2 (al S 24 (Int32.toNatClampNeg x1)))), none, some (.long r7), none, none, none]) (st' := [.int x1, .ref 22, .long r7, .long (mxL x2 (al S 24 (Int32.toNatClampNeg x1)))]) (σ' := (S, M, O)) (rfl) ?_
        obtain ⟨hc9, hF⟩ := ck_i hF
        refine Ex_chk (b := ib x1 256) (pc' := 72) (L' := [some (.ref 21), some (.int x1), some (.long x2), none, some (.long (mxL x2 (al S 24 (Int32.toNatClampNeg x1)))), none, some (.long r7), none, none, none]) (st' := [.long (al S 22 (Int32.toNatClampNeg x1)), .long r7, .long (mxL x2 (al S 24 (Int32.toNatClampNeg x1)))]) (σ' := (S, M, O)) rfl hc9 ?_
        refine Ex_go 2 (pc' := 78) (L' := [some (.ref 21), some (.int x1), some (.long x2), none, some (.long (mxL x2 (al S 24 (Int32.toNatClampNeg x1)))), none, some (.long r7), none, none, none]) (st' := [.long (r7 + (al S 22 (Int32.toNatClampNeg x1))), .long (mxL x2 (al S 24 (Int32.toNatClampNeg x1)))]) (σ' := (S, M, O)) (rfl) ?_
        exact Ex_mono (L := [some (.ref 21), some (.int x1), none, none, none, none, none, none, none, none]) (Le_s (Le_s (Le_n (Le_n (Le_n (Le_n (Le_n (Le_n (Le_n (Le_n (Le_0))))))))))) (X_Sh_firstFrom_78 hd _ _ _ _ _ hF) (Nat.le_refl _) (by omega)
    · rw [if_neg hc] at hF
      exact Ex_mono (L := [none, none, none, none, none, none, none, none, none, none]) (Le_n (Le_n (Le_n (Le_n (Le_n (Le_n (Le_n (Le_n (Le_n (Le_n (Le_0))))))))))) (X_Sh_firstFrom_19 hd _ _ hF) (Nat.le_refl _) (by omega)
def F_w_quotient (x0 : Int64) (x2 : Int64) : Option Int64 := if x2 ≤ (0 : Int64) then some (0 : Int64) else ck (nzL x2) (some (x0 / x2))
set_option maxRecDepth 100000 in
theorem X_w_quotient {nL : Nat} {xs : Nat → Int32} {S : Sto} {M : Sto} {O : Sto} {d : Nat} (hd : 1 ≤ d) : ∀ (x0 : Int64) (x2 : Int64) (r : Int64), F_w_quotient x0 x2 = some r → EX nL xs 0 MI_43 d 0 [some (.long x0), none, some (.long x2), none] [] (S, M, O) (.inl (some (.long r))) (S, M, O) := by
  intro x0 x2 r hF
  unfold F_w_quotient at hF
  refine Ex_go 4 (pc' := if (lg_cmp x2 (0 : Int64)) ≤ 0 then 12 else 6) (L' := [some (.long x0), none, some (.long x2), none]) (st' := []) (σ' := (S, M, O)) (rfl) ?_
  refine Ex_brI lc_le (fun hc => ?_) (fun hc => ?_)
  · rw [if_pos hc] at hF
    refine Ex_go 1 (pc' := 13) (L' := [some (.long x0), none, some (.long x2), none]) (st' := [.long (0 : Int64)]) (σ' := (S, M, O)) (rfl) ?_
    cases hF
    exact Ex_fin rfl
  · rw [if_neg hc] at hF
    refine Ex_go 2 (pc' := 8) (L' := [some (.long x0), none, some (.long x2), none]) (st' := [.long x2, .long x0]) (σ' := (S, M, O)) (rfl) ?_
    obtain ⟨hc1, hF⟩ := ck_i hF
    refine Ex_chk (b := nzL x2) (pc' := 9) (L' := [some (.long x0), none, some (.long x2), none]) (st' := [.long (x0 / x2)]) (σ' := (S, M, O)) rfl hc1 ?_
    refine Ex_go 1 (pc' := 13) (L' := [some (.long x0), none, some (.long x2), none]) (st' := [.long (x0 / x2)]) (σ' := (S, M, O)) (rfl) ?_
    cases hF
    exact Ex_fin rfl
def F_Sh_amount (x1 : Int32) (x2 : Int64) (x4 : Int64) (S : Sto) : Option Int64 := b1 (F_Sh_firstFrom x1 x2 S) (fun r1 => if r1 = (-1 : Int64) then some (0 : Int64) else b1 (F_Sh_has x1 S) (fun r3 => if r3 = 0 then some (0 : Int64) else if r1 ≤ x4 then ck (ib x1 256) (ck (ib x1 256) (b1 (F_w_quotient ((mnL x4 (al S 25 (Int32.toNatClampNeg x1))) - r1) (al S 22 (Int32.toNatClampNeg x1))) (fun r7 => some (r7 + (1 : Int64))))) else some (0 : Int64)))
set_option maxRecDepth 100000 in
theorem X_Sh_amount {nL : Nat} {xs : Nat → Int32} {M : Sto} {O : Sto} {d : Nat} (hd : 7 ≤ d) : ∀ (x1 : Int32) (x2 : Int64) (x4 : Int64) (S : Sto) (r : Int64), F_Sh_amount x1 x2 x4 S = some r → EX nL xs 0 MI_131 d 0 [some (.ref 21), some (.int x1), some (.long x2), none, some (.long x4), none, none, none] [] (S, M, O) (.inl (some (.long r))) (S, M, O) := by
  intro x1 x2 x4 S r hF
  unfold F_Sh_amount at hF
  refine Ex_go 3 (pc' := 3) (L' := [some (.ref 21), some (.int x1), some (.long x2), none, some (.long x4), none, none, none]) (st' := [.long x2, .int x1, .ref 21]) (σ' := (S, M, O)) (rfl) ?_
  obtain ⟨r1, hx2, hF⟩ := b1_i hF
  refine Ex_call (kind := 2) (y := 130) (as := [.ref 21, .int x1, .long x2]) (rest := []) (L0 := [some (.ref 21), some (.int x1), some (.long x2), none, none, none, none, none, none, none]) (d' := 6) (v := some (.long r1)) (σ1 := (S, M, O)) rfl rfl mt_130 rfl rfl (by omega) (X_Sh_firstFrom (Nat.le_refl _) _ _ _ _ hx2) (Ex_st (st2 := [.long r1]) rfl ?_)
  refine Ex_go 5 (pc' := if (lg_cmp r1 (-1 : Int64)) = 0 then 33 else 17) (L' := [some (.ref 21), some (.int x1), some (.long x2), none, some (.long x4), none, some (.long r1), none]) (st' := []) (σ' := (S, M, O)) (rfl) ?_
  refine Ex_brI lc_eq (fun hc => ?_) (fun hc => ?_)
  · rw [if_pos hc] at hF
    refine Ex_go 1 (pc' := 34) (L' := [some (.ref 21), some (.int x1), some (.long x2), none, some (.long x4), none, some (.long r1), none]) (st' := [.long (0 : Int64)]) (σ' := (S, M, O)) (rfl) ?_
    cases hF
    exact Ex_fin rfl
  · rw [if_neg hc] at hF
    refine Ex_go 2 (pc' := 19) (L' := [some (.ref 21), some (.int x1), some (.long x2), none, some (.long x4), none, some (.long r1), none]) (st' := [.int x1, .ref 21]) (σ' := (S, M, O)) (rfl) ?_
    obtain ⟨r3, hx4, hF⟩ := b1_i hF
    refine Ex_call (kind := 2) (y := 40) (as := [.ref 21, .int x1]) (rest := []) (L0 := [some (.ref 21), some (.int x1)]) (d' := 1) (v := some (.int r3)) (σ1 := (S, M, O)) rfl rfl mt_40 rfl rfl (by omega) (X_Sh_has (Nat.le_refl _) _ _ _ hx4) (Ex_st (st2 := [.int r3]) rfl ?_)
    refine Ex_go 1 (pc' := if r3 = 0 then 33 else 25) (L' := [some (.ref 21), some (.int x1), some (.long x2), none, some (.long x4), none, some (.long r1), none]) (st' := []) (σ' := (S, M, O)) (rfl) ?_
    refine Ex_br (fun hc => ?_) (fun hc => ?_)
    · rw [if_pos hc] at hF
      refine Ex_go 1 (pc' := 34) (L' := [some (.ref 21), some (.int x1), some (.long x2), none, some (.long x4), none, some (.long r1), none]) (st' := [.long (0 : Int64)]) (σ' := (S, M, O)) (rfl) ?_
      cases hF
      exact Ex_fin rfl
    · rw [if_neg hc] at hF
      refine Ex_go 4 (pc' := if (lg_cmp r1 x4) ≤ 0 then 35 else 33) (L' := [some (.ref 21), some (.int x1), some (.long x2), none, some (.long x4), none, some (.long r1), none]) (st' := []) (σ' := (S, M, O)) (rfl) ?_
      refine Ex_brI lc_le (fun hc => ?_) (fun hc => ?_)
      · rw [if_pos hc] at hF
        refine Ex_go 4 (pc' := 42) (L' := [some (.ref 21), some (.int x1), some (.long x2), none, some (.long x4), none, some (.long r1), none]) (st' := [.int x1, .ref 25, .long x4]) (σ' := (S, M, O)) (rfl) ?_
        obtain ⟨hc5, hF⟩ := ck_i hF
        refine Ex_chk (b := ib x1 256) (pc' := 43) (L' := [some (.ref 21), some (.int x1), some (.long x2), none, some (.long x4), none, some (.long r1), none]) (st' := [.long (al S 25 (Int32.toNatClampNeg x1)), .long x4]) (σ' := (S, M, O)) rfl hc5 ?_
        refine Ex_blt (kind := 12) (y := 0) (as := [.long x4, .long (al S 25 (Int32.toNatClampNeg x1))]) (rest := []) (v := .long (mnL x4 (al S 25 (Int32.toNatClampNeg x1)))) rfl rfl (by omega) ?_
        refine Ex_go 5 (pc' := 54) (L' := [some (.ref 21), some (.int x1), some (.long x2), none, some (.long x4), none, some (.long r1), none]) (st' := [.int x1, .ref 22, .long ((mnL x4 (al S 25 (Int32.toNatClampNeg x1))) - r1)]) (σ' := (S, M, O)) (rfl) ?_
        obtain ⟨hc6, hF⟩ := ck_i hF
        refine Ex_chk (b := ib x1 256) (pc' := 55) (L' := [some (.ref 21), some (.int x1), some (.long x2), none, some (.long x4), none, some (.long r1), none]) (st' := [.long (al S 22 (Int32.toNatClampNeg x1)), .long ((mnL x4 (al S 25 (Int32.toNatClampNeg x1))) - r1)]) (σ' := (S, M, O)) rfl hc6 ?_
        obtain ⟨r7, hx8, hF⟩ := b1_i hF
        refine Ex_call (kind := 1) (y := 43) (as := [.long ((mnL x4 (al S 25 (Int32.toNatClampNeg x1))) - r1), .long (al S 22 (Int32.toNatClampNeg x1))]) (rest := []) (L0 := [some (.long ((mnL x4 (al S 25 (Int32.toNatClampNeg x1))) - r1)), none, some (.long (al S 22 (Int32.toNatClampNeg x1))), none]) (d' := 1) (v := some (.long r7)) (σ1 := (S, M, O)) rfl rfl mt_43 rfl rfl (by omega) (X_w_quotient (Nat.le_refl _) _ _ _ hx8) (Ex_st (st2 := [.long r7]) rfl ?_)
        refine Ex_go 2 (pc' := 60) (L' := [some (.ref 21), some (.int x1), some (.long x2), none, some (.long x4), none, some (.long r1), none]) (st' := [.long (r7 + (1 : Int64))]) (σ' := (S, M, O)) (rfl) ?_
        cases hF
        exact Ex_fin rfl
      · rw [if_neg hc] at hF
        refine Ex_go 1 (pc' := 34) (L' := [some (.ref 21), some (.int x1), some (.long x2), none, some (.long x4), none, some (.long r1), none]) (st' := [.long (0 : Int64)]) (σ' := (S, M, O)) (rfl) ?_
        cases hF
        exact Ex_fin rfl
def F_Sh_measure_3 : Nat → Int64 → Int64 → Int32 → Sto → Option (Unit × Sto)
  | 0, _, _, _, _ => none
  | n + 1, x1, x3, x5, S => if (gi S 25) ≤ x5 then some ((), S) else if (256 : Int32) ≤ x5 then some ((), S) else b1 (F_Sh_amount x5 x1 x3 S) (fun r1 => ck (ib x5 256) (F_Sh_measure_3 n x1 x3 (x5 + (1 : Int32)) (ul S 26 (vp_updL (al S 26) (Int32.toNatClampNeg x5) r1))))
set_option maxRecDepth 100000 in
theorem X_Sh_measure_3 {nL : Nat} {xs : Nat → Int32} {M : Sto} {O : Sto} {d : Nat} (hd : 8 ≤ d) : ∀ n : Nat, ∀ (x1 : Int64) (x3 : Int64) (x5 : Int32) (S : Sto) (r : Unit) (S' : Sto), F_Sh_measure_3 n x1 x3 x5 S = some (r, S') → EX nL xs 0 MI_143 d 3 [some (.ref 21), some (.long x1), none, some (.long x3), none, some (.int x5)] [] (S, M, O) (.inl none) (S', M, O) := by
  intro n
  induction n with
  | zero => intro x1 x3 x5 S r S' hF; cases hF
  | succ n ih =>
  intro x1 x3 x5 S r S' hF
  unfold F_Sh_measure_3 at hF
  refine Ex_go 4 (pc' := if (gi S 25) ≤ x5 then 41 else 12) (L' := [some (.ref 21), some (.long x1), none, some (.long x3), none, some (.int x5)]) (st' := []) (σ' := (S, M, O)) (rfl) ?_
  refine Ex_br (fun hc => ?_) (fun hc => ?_)
  · rw [if_pos hc] at hF
    cases hF
    exact Ex_fin rfl
  · rw [if_neg hc] at hF
    refine Ex_go 3 (pc' := if (256 : Int32) ≤ x5 then 41 else 20) (L' := [some (.ref 21), some (.long x1), none, some (.long x3), none, some (.int x5)]) (st' := []) (σ' := (S, M, O)) (rfl) ?_
    refine Ex_br (fun hc => ?_) (fun hc => ?_)
    · rw [if_pos hc] at hF
      cases hF
      exact Ex_fin rfl
    · rw [if_neg hc] at hF
      refine Ex_go 7 (pc' := 31) (L' := [some (.ref 21), some (.long x1), none, some (.long x3), none, some (.int x5)]) (st' := [.long x3, .long x1, .int x5, .ref 21, .int x5, .ref 26]) (σ' := (S, M, O)) (rfl) ?_
      obtain ⟨r1, hx2, hF⟩ := b1_i hF
      refine Ex_call (kind := 2) (y := 131) (as := [.ref 21, .int x5, .long x1, .long x3]) (rest := [.int x5, .ref 26]) (L0 := [some (.ref 21), some (.int x5), some (.long x1), none, some (.long x3), none, none, none]) (d' := 7) (v := some (.long r1)) (σ1 := (S, M, O)) rfl rfl mt_131 rfl rfl (by omega) (X_Sh_amount (Nat.le_refl _) _ _ _ _ _ hx2) (Ex_st (st2 := [.long r1, .int x5, .ref 26]) rfl ?_)
      obtain ⟨hc3, hF⟩ := ck_i hF
      refine Ex_chk (b := ib x5 256) (pc' := 35) (L' := [some (.ref 21), some (.long x1), none, some (.long x3), none, some (.int x5)]) (st' := []) (σ' := ((ul S 26 (vp_updL (al S 26) (Int32.toNatClampNeg x5) r1)), M, O)) rfl hc3 ?_
      refine Ex_go 2 (pc' := 3) (L' := [some (.ref 21), some (.long x1), none, some (.long x3), none, some (.int (x5 + (1 : Int32)))]) (st' := []) (σ' := ((ul S 26 (vp_updL (al S 26) (Int32.toNatClampNeg x5) r1)), M, O)) (rfl) ?_
      exact Ex_mono (L := [some (.ref 21), some (.long x1), none, some (.long x3), none, some (.int (x5 + (1 : Int32)))]) (Le_s (Le_s (Le_n (Le_s (Le_n (Le_s (Le_0))))))) (ih _ _ _ _ _ _ hF) (Nat.le_refl _) (by omega)
def F_Sh_measure (x1 : Int64) (x3 : Int64) (S : Sto) : Option (Unit × Sto) := F_Sh_measure_3 FU x1 x3 (0 : Int32) S
set_option maxRecDepth 100000 in
theorem X_Sh_measure {nL : Nat} {xs : Nat → Int32} {M : Sto} {O : Sto} {d : Nat} (hd : 8 ≤ d) : ∀ (x1 : Int64) (x3 : Int64) (S : Sto) (r : Unit) (S' : Sto), F_Sh_measure x1 x3 S = some (r, S') → EX nL xs 0 MI_143 d 0 [some (.ref 21), some (.long x1), none, some (.long x3), none, none] [] (S, M, O) (.inl none) (S', M, O) := by
  intro x1 x3 S r S' hF
  unfold F_Sh_measure at hF
  refine Ex_go 2 (pc' := 3) (L' := [some (.ref 21), some (.long x1), none, some (.long x3), none, some (.int (0 : Int32))]) (st' := []) (σ' := (S, M, O)) (rfl) ?_
  exact Ex_mono (L := [some (.ref 21), some (.long x1), none, some (.long x3), none, some (.int (0 : Int32))]) (Le_s (Le_s (Le_n (Le_s (Le_n (Le_s (Le_0))))))) (X_Sh_measure_3 hd FU _ _ _ _ _ _ hF) (Nat.le_refl _) (by omega)
def F_Sh_measured (x1 : Int32) (S : Sto) : Option Int64 := b1 (F_Sh_has x1 S) (fun r1 => if r1 = 0 then some (0 : Int64) else ck (ib x1 256) (some (al S 26 (Int32.toNatClampNeg x1))))
set_option maxRecDepth 100000 in
theorem X_Sh_measured {nL : Nat} {xs : Nat → Int32} {M : Sto} {O : Sto} {d : Nat} (hd : 2 ≤ d) : ∀ (x1 : Int32) (S : Sto) (r : Int64), F_Sh_measured x1 S = some r → EX nL xs 0 MI_263 d 0 [some (.ref 21), some (.int x1)] [] (S, M, O) (.inl (some (.long r))) (S, M, O) := by
  intro x1 S r hF
  unfold F_Sh_measured at hF
  refine Ex_go 2 (pc' := 2) (L' := [some (.ref 21), some (.int x1)]) (st' := [.int x1, .ref 21]) (σ' := (S, M, O)) (rfl) ?_
  obtain ⟨r1, hx2, hF⟩ := b1_i hF
  refine Ex_call (kind := 2) (y := 40) (as := [.ref 21, .int x1]) (rest := []) (L0 := [some (.ref 21), some (.int x1)]) (d' := 1) (v := some (.int r1)) (σ1 := (S, M, O)) rfl rfl mt_40 rfl rfl (by omega) (X_Sh_has (Nat.le_refl _) _ _ _ hx2) (Ex_st (st2 := [.int r1]) rfl ?_)
  refine Ex_go 1 (pc' := if r1 = 0 then 17 else 8) (L' := [some (.ref 21), some (.int x1)]) (st' := []) (σ' := (S, M, O)) (rfl) ?_
  refine Ex_br (fun hc => ?_) (fun hc => ?_)
  · rw [if_pos hc] at hF
    refine Ex_go 1 (pc' := 18) (L' := [some (.ref 21), some (.int x1)]) (st' := [.long (0 : Int64)]) (σ' := (S, M, O)) (rfl) ?_
    cases hF
    exact Ex_fin rfl
  · rw [if_neg hc] at hF
    refine Ex_go 3 (pc' := 13) (L' := [some (.ref 21), some (.int x1)]) (st' := [.int x1, .ref 26]) (σ' := (S, M, O)) (rfl) ?_
    obtain ⟨hc3, hF⟩ := ck_i hF
    refine Ex_chk (b := ib x1 256) (pc' := 14) (L' := [some (.ref 21), some (.int x1)]) (st' := [.long (al S 26 (Int32.toNatClampNeg x1))]) (σ' := (S, M, O)) rfl hc3 ?_
    refine Ex_go 1 (pc' := 18) (L' := [some (.ref 21), some (.int x1)]) (st' := [.long (al S 26 (Int32.toNatClampNeg x1))]) (σ' := (S, M, O)) (rfl) ?_
    cases hF
    exact Ex_fin rfl
def F_w_gain (x1 : Int32) (x2 : Int32) (S : Sto) : Option Int64 := b1 (F_Sh_measured (((1 : Int32) <<< (x1 &&& 31)) ||| ((1 : Int32) <<< (x2 &&& 31))) S) (fun r1 => b1 (F_Sh_measured ((1 : Int32) <<< (x1 &&& 31)) S) (fun r3 => some ((r3 - r1) + (r1 / (2 : Int64)))))
set_option maxRecDepth 100000 in
theorem X_w_gain {nL : Nat} {xs : Nat → Int32} {M : Sto} {O : Sto} {d : Nat} (hd : 3 ≤ d) : ∀ (x1 : Int32) (x2 : Int32) (S : Sto) (r : Int64), F_w_gain x1 x2 S = some r → EX nL xs 0 MI_264 d 0 [some (.ref 0), some (.int x1), some (.int x2), none, none] [] (S, M, O) (.inl (some (.long r))) (S, M, O) := by
  intro x1 x2 S r hF
  unfold F_w_gain at hF
  refine Ex_go 9 (pc' := 11) (L' := [some (.ref 0), some (.int x1), some (.int x2), none, none]) (st' := [.int (((1 : Int32) <<< (x1 &&& 31)) ||| ((1 : Int32) <<< (x2 &&& 31))), .ref 21]) (σ' := (S, M, O)) (rfl) ?_
  obtain ⟨r1, hx2, hF⟩ := b1_i hF
  refine Ex_call (kind := 2) (y := 263) (as := [.ref 21, .int (((1 : Int32) <<< (x1 &&& 31)) ||| ((1 : Int32) <<< (x2 &&& 31)))]) (rest := []) (L0 := [some (.ref 21), some (.int (((1 : Int32) <<< (x1 &&& 31)) ||| ((1 : Int32) <<< (x2 &&& 31))))]) (d' := 2) (v := some (.long r1)) (σ1 := (S, M, O)) rfl rfl mt_263 rfl rfl (by omega) (X_Sh_measured (Nat.le_refl _) _ _ _ hx2) (Ex_st (st2 := [.long r1]) rfl ?_)
  refine Ex_go 6 (pc' := 22) (L' := [some (.ref 0), some (.int x1), some (.int x2), some (.long r1), none]) (st' := [.int ((1 : Int32) <<< (x1 &&& 31)), .ref 21]) (σ' := (S, M, O)) (rfl) ?_
  obtain ⟨r3, hx4, hF⟩ := b1_i hF
  refine Ex_call (kind := 2) (y := 263) (as := [.ref 21, .int ((1 : Int32) <<< (x1 &&& 31))]) (rest := []) (L0 := [some (.ref 21), some (.int ((1 : Int32) <<< (x1 &&& 31)))]) (d' := 2) (v := some (.long r3)) (σ1 := (S, M, O)) rfl rfl mt_263 rfl rfl (by omega) (X_Sh_measured (Nat.le_refl _) _ _ _ hx4) (Ex_st (st2 := [.long r3]) rfl ?_)
  refine Ex_go 4 (pc' := 31) (L' := [some (.ref 0), some (.int x1), some (.int x2), some (.long r1), none]) (st' := [.long (2 : Int64), .long r1, .long (r3 - r1)]) (σ' := (S, M, O)) (rfl) ?_
  refine Ex_chk (b := nzL (2 : Int64)) (pc' := 32) (L' := [some (.ref 0), some (.int x1), some (.int x2), some (.long r1), none]) (st' := [.long (r1 / (2 : Int64)), .long (r3 - r1)]) (σ' := (S, M, O)) rfl (by decide) ?_
  refine Ex_go 1 (pc' := 33) (L' := [some (.ref 0), some (.int x1), some (.int x2), some (.long r1), none]) (st' := [.long ((r3 - r1) + (r1 / (2 : Int64)))]) (σ' := (S, M, O)) (rfl) ?_
  cases hF
  exact Ex_fin rfl
def F_w_staysWith_10 : Nat → Int32 → Int64 → Int32 → Sto → Option Int32
  | 0, _, _, _, _ => none
  | n + 1, x2, x3, x5, S => if (gi S 22) ≤ x5 then some (1 : Int32) else b1 (F_w_gain x5 x2 S) (fun r1 => if r1 ≤ x3 then F_w_staysWith_10 n x2 x3 (x5 + (1 : Int32)) S else some (0 : Int32))
set_option maxRecDepth 100000 in
theorem X_w_staysWith_10 {nL : Nat} {xs : Nat → Int32} {M : Sto} {O : Sto} {d : Nat} (hd : 4 ≤ d) : ∀ n : Nat, ∀ (x2 : Int32) (x3 : Int64) (x5 : Int32) (S : Sto) (r : Int32), F_w_staysWith_10 n x2 x3 x5 S = some r → EX nL xs 0 MI_265 d 10 [some (.ref 0), none, some (.int x2), some (.long x3), none, some (.int x5)] [] (S, M, O) (.inl (some (.int r))) (S, M, O) := by
  intro n
  induction n with
  | zero => intro x2 x3 x5 S r hF; cases hF
  | succ n ih =>
  intro x2 x3 x5 S r hF
  unfold F_w_staysWith_10 at hF
  refine Ex_go 5 (pc' := if (gi S 22) ≤ x5 then 42 else 22) (L' := [some (.ref 0), none, some (.int x2), some (.long x3), none, some (.int x5)]) (st' := []) (σ' := (S, M, O)) (rfl) ?_
  refine Ex_br (fun hc => ?_) (fun hc => ?_)
  · rw [if_pos hc] at hF
    refine Ex_go 1 (pc' := 43) (L' := [some (.ref 0), none, some (.int x2), some (.long x3), none, some (.int x5)]) (st' := [.int (1 : Int32)]) (σ' := (S, M, O)) (rfl) ?_
    cases hF
    exact Ex_fin rfl
  · rw [if_neg hc] at hF
    refine Ex_go 3 (pc' := 26) (L' := [some (.ref 0), none, some (.int x2), some (.long x3), none, some (.int x5)]) (st' := [.int x2, .int x5, .ref 0]) (σ' := (S, M, O)) (rfl) ?_
    obtain ⟨r1, hx2, hF⟩ := b1_i hF
    refine Ex_call (kind := 2) (y := 264) (as := [.ref 0, .int x5, .int x2]) (rest := []) (L0 := [some (.ref 0), some (.int x5), some (.int x2), none, none]) (d' := 3) (v := some (.long r1)) (σ1 := (S, M, O)) rfl rfl mt_264 rfl rfl (by omega) (X_w_gain (Nat.le_refl _) _ _ _ _ hx2) (Ex_st (st2 := [.long r1]) rfl ?_)
    refine Ex_go 3 (pc' := if (lg_cmp r1 x3) ≤ 0 then 36 else 34) (L' := [some (.ref 0), none, some (.int x2), some (.long x3), none, some (.int x5)]) (st' := []) (σ' := (S, M, O)) (rfl) ?_
    refine Ex_brI lc_le (fun hc => ?_) (fun hc => ?_)
    · rw [if_pos hc] at hF
      refine Ex_go 2 (pc' := 10) (L' := [some (.ref 0), none, some (.int x2), some (.long x3), none, some (.int (x5 + (1 : Int32)))]) (st' := []) (σ' := (S, M, O)) (rfl) ?_
      exact Ex_mono (L := [some (.ref 0), none, some (.int x2), some (.long x3), none, some (.int (x5 + (1 : Int32)))]) (Le_s (Le_n (Le_s (Le_s (Le_n (Le_s (Le_0))))))) (ih _ _ _ _ _ hF) (Nat.le_refl _) (by omega)
    · rw [if_neg hc] at hF
      refine Ex_go 1 (pc' := 35) (L' := [some (.ref 0), none, some (.int x2), some (.long x3), none, some (.int x5)]) (st' := [.int (0 : Int32)]) (σ' := (S, M, O)) (rfl) ?_
      cases hF
      exact Ex_fin rfl
def F_w_staysWith (x1 : Int32) (x2 : Int32) (S : Sto) : Option Int32 := b1 (F_w_gain x1 x2 S) (fun r1 => F_w_staysWith_10 FU x2 r1 (0 : Int32) S)
set_option maxRecDepth 100000 in
theorem X_w_staysWith {nL : Nat} {xs : Nat → Int32} {M : Sto} {O : Sto} {d : Nat} (hd : 4 ≤ d) : ∀ (x1 : Int32) (x2 : Int32) (S : Sto) (r : Int32), F_w_staysWith x1 x2 S = some r → EX nL xs 0 MI_265 d 0 [some (.ref 0), some (.int x1), some (.int x2), none, none, none] [] (S, M, O) (.inl (some (.int r))) (S, M, O) := by
  intro x1 x2 S r hF
  unfold F_w_staysWith at hF
  refine Ex_go 3 (pc' := 3) (L' := [some (.ref 0), some (.int x1), some (.int x2), none, none, none]) (st' := [.int x2, .int x1, .ref 0]) (σ' := (S, M, O)) (rfl) ?_
  obtain ⟨r1, hx2, hF⟩ := b1_i hF
  refine Ex_call (kind := 2) (y := 264) (as := [.ref 0, .int x1, .int x2]) (rest := []) (L0 := [some (.ref 0), some (.int x1), some (.int x2), none, none]) (d' := 3) (v := some (.long r1)) (σ1 := (S, M, O)) rfl rfl mt_264 rfl rfl (by omega) (X_w_gain (Nat.le_refl _) _ _ _ _ hx2) (Ex_st (st2 := [.long r1]) rfl ?_)
  refine Ex_go 3 (pc' := 10) (L' := [some (.ref 0), some (.int x1), some (.int x2), some (.long r1), none, some (.int (0 : Int32))]) (st' := []) (σ' := (S, M, O)) (rfl) ?_
  exact Ex_mono (L := [some (.ref 0), none, some (.int x2), some (.long r1), none, some (.int (0 : Int32))]) (Le_s (Le_n (Le_s (Le_s (Le_n (Le_s (Le_0))))))) (X_w_staysWith_10 hd FU _ _ _ _ _ hF) (Nat.le_refl _) (by omega)
def F_w_fleets_9 (S : Sto) : Option ((Int32 ⊕ Nat) × Sto) := some ((.inr 1), S)
set_option maxRecDepth 100000 in
theorem X_w_fleets_9 {nL : Nat} {xs : Nat → Int32} {M : Sto} {O : Sto} {d : Nat} (hd : 9 ≤ d) : ∀ (S : Sto) (r : Int32 ⊕ Nat) (S' : Sto), F_w_fleets_9 S = some (r, S') → EX nL xs 1 MI_266 d 9 [none, none, none, none, none, none] [] (S, M, O) (rsI r) (S', M, O) := by
  intro S r S' hF
  unfold F_w_fleets_9 at hF
  cases hF
  exact Ex_thr rfl (by omega) (Nat.le_refl _)
def F_w_fleets_114 (k45 : Int32 → Int32 → Int32 → Int32 → Sto → Option ((Int32 ⊕ Nat) × Sto)) (k60 : Int32 → Int32 → Int32 → Int32 → Int32 → Sto → Option ((Int32 ⊕ Nat) × Sto)) (x1 : Int32) (x2 : Int32) (x3 : Int32) (x4 : Int32) (x5 : Int32) (S : Sto) : Option ((Int32 ⊕ Nat) × Sto) := k60 x1 x2 x3 x4 (x5 + (1 : Int32)) S
set_option maxRecDepth 100000 in
theorem X_w_fleets_114 {nL : Nat} {xs : Nat → Int32} {M : Sto} {O : Sto} {d : Nat} (hd : 9 ≤ d) {k45 : Int32 → Int32 → Int32 → Int32 → Sto → Option ((Int32 ⊕ Nat) × Sto)} {k60 : Int32 → Int32 → Int32 → Int32 → Int32 → Sto → Option ((Int32 ⊕ Nat) × Sto)} (hk45 : ∀ (x1 : Int32) (x2 : Int32) (x3 : Int32) (x4 : Int32) (S : Sto) (r : Int32 ⊕ Nat) (S' : Sto), k45 x1 x2 x3 x4 S = some (r, S') → EX nL xs 1 MI_266 d 45 [some (.ref 0), some (.int x1), some (.int x2), some (.int x3), some (.int x4), none] [] (S, M, O) (rsI r) (S', M, O)) (hk60 : ∀ (x1 : Int32) (x2 : Int32) (x3 : Int32) (x4 : Int32) (x5 : Int32) (S : Sto) (r : Int32 ⊕ Nat) (S' : Sto), k60 x1 x2 x3 x4 x5 S = some (r, S') → EX nL xs 1 MI_266 d 60 [some (.ref 0), some (.int x1), some (.int x2), some (.int x3), some (.int x4), some (.int x5)] [] (S, M, O) (rsI r) (S', M, O)) : ∀ (x1 : Int32) (x2 : Int32) (x3 : Int32) (x4 : Int32) (x5 : Int32) (S : Sto) (r : Int32 ⊕ Nat) (S' : Sto), F_w_fleets_114 k45 k60 x1 x2 x3 x4 x5 S = some (r, S') → EX nL xs 1 MI_266 d 114 [some (.ref 0), some (.int x1), some (.int x2), some (.int x3), some (.int x4), some (.int x5)] [] (S, M, O) (rsI r) (S', M, O) := by
  intro x1 x2 x3 x4 x5 S r S' hF
  unfold F_w_fleets_114 at hF
  refine Ex_go 2 (pc' := 60) (L' := [some (.ref 0), some (.int x1), some (.int x2), some (.int x3), some (.int x4), some (.int (x5 + (1 : Int32)))]) (st' := []) (σ' := (S, M, O)) (rfl) ?_
  exact Ex_mono (L := [some (.ref 0), some (.int x1), some (.int x2), some (.int x3), some (.int x4), some (.int (x5 + (1 : Int32)))]) (Le_s (Le_s (Le_s (Le_s (Le_s (Le_s (Le_0))))))) (hk60 _ _ _ _ _ _ _ _ hF) (Nat.le_refl _) (by omega)
def F_w_fleets_110 (k45 : Int32 → Int32 → Int32 → Int32 → Sto → Option ((Int32 ⊕ Nat) × Sto)) (k60 : Int32 → Int32 → Int32 → Int32 → Int32 → Sto → Option ((Int32 ⊕ Nat) × Sto)) (x1 : Int32) (x2 : Int32) (x4 : Int32) (x5 : Int32) (s0 : Int32) (S : Sto) : Option ((Int32 ⊕ Nat) × Sto) := F_w_fleets_114 k45 k60 x1 (x2 + (1 : Int32)) s0 x4 x5 S
set_option maxRecDepth 100000 in
theorem X_w_fleets_110 {nL : Nat} {xs : Nat → Int32} {M : Sto} {O : Sto} {d : Nat} (hd : 9 ≤ d) {k45 : Int32 → Int32 → Int32 → Int32 → Sto → Option ((Int32 ⊕ Nat) × Sto)} {k60 : Int32 → Int32 → Int32 → Int32 → Int32 → Sto → Option ((Int32 ⊕ Nat) × Sto)} (hk45 : ∀ (x1 : Int32) (x2 : Int32) (x3 : Int32) (x4 : Int32) (S : Sto) (r : Int32 ⊕ Nat) (S' : Sto), k45 x1 x2 x3 x4 S = some (r, S') → EX nL xs 1 MI_266 d 45 [some (.ref 0), some (.int x1), some (.int x2), some (.int x3), some (.int x4), none] [] (S, M, O) (rsI r) (S', M, O)) (hk60 : ∀ (x1 : Int32) (x2 : Int32) (x3 : Int32) (x4 : Int32) (x5 : Int32) (S : Sto) (r : Int32 ⊕ Nat) (S' : Sto), k60 x1 x2 x3 x4 x5 S = some (r, S') → EX nL xs 1 MI_266 d 60 [some (.ref 0), some (.int x1), some (.int x2), some (.int x3), some (.int x4), some (.int x5)] [] (S, M, O) (rsI r) (S', M, O)) : ∀ (x1 : Int32) (x2 : Int32) (x4 : Int32) (x5 : Int32) (s0 : Int32) (S : Sto) (r : Int32 ⊕ Nat) (S' : Sto), F_w_fleets_110 k45 k60 x1 x2 x4 x5 s0 S = some (r, S') → EX nL xs 1 MI_266 d 110 [some (.ref 0), some (.int x1), some (.int x2), none, some (.int x4), some (.int x5)] [.int s0] (S, M, O) (rsI r) (S', M, O) := by
  intro x1 x2 x4 x5 s0 S r S' hF
  unfold F_w_fleets_110 at hF
  refine Ex_go 2 (pc' := 114) (L' := [some (.ref 0), some (.int x1), some (.int (x2 + (1 : Int32))), some (.int s0), some (.int x4), some (.int x5)]) (st' := []) (σ' := (S, M, O)) (rfl) ?_
  exact Ex_mono (L := [some (.ref 0), some (.int x1), some (.int (x2 + (1 : Int32))), some (.int s0), some (.int x4), some (.int x5)]) (Le_s (Le_s (Le_s (Le_s (Le_s (Le_s (Le_0))))))) (X_w_fleets_114 hd hk45 hk60 _ _ _ _ _ _ _ _ hF) (Nat.le_refl _) (by omega)
def F_w_fleets_60 (k45 : Int32 → Int32 → Int32 → Int32 → Sto → Option ((Int32 ⊕ Nat) × Sto)) : Nat → Int32 → Int32 → Int32 → Int32 → Int32 → Sto → Option ((Int32 ⊕ Nat) × Sto)
  | 0, _, _, _, _, _, _ => none
  | n + 1, x1, x2, x3, x4, x5, S => if (gi S 22) ≤ x5 then k45 x1 x2 x3 (x4 + (1 : Int32)) S else b1 (F_w_staysWith x4 x5 S) (fun r1 => if r1 = 0 then F_w_fleets_114 k45 (F_w_fleets_60 k45 n) x1 x2 x3 x4 x5 S else b1 (F_w_staysWith x5 x4 S) (fun r3 => if r3 = 0 then F_w_fleets_114 k45 (F_w_fleets_60 k45 n) x1 x2 x3 x4 x5 S else if x2 = 0 then F_w_fleets_110 k45 (F_w_fleets_60 k45 n) x1 x2 x4 x5 (((10 : Int32) * x4) + x5) S else F_w_fleets_110 k45 (F_w_fleets_60 k45 n) x1 x2 x4 x5 x3 S))
set_option maxRecDepth 100000 in
theorem X_w_fleets_60 {nL : Nat} {xs : Nat → Int32} {M : Sto} {O : Sto} {d : Nat} (hd : 9 ≤ d) {k45 : Int32 → Int32 → Int32 → Int32 → Sto → Option ((Int32 ⊕ Nat) × Sto)} (hk45 : ∀ (x1 : Int32) (x2 : Int32) (x3 : Int32) (x4 : Int32) (S : Sto) (r : Int32 ⊕ Nat) (S' : Sto), k45 x1 x2 x3 x4 S = some (r, S') → EX nL xs 1 MI_266 d 45 [some (.ref 0), some (.int x1), some (.int x2), some (.int x3), some (.int x4), none] [] (S, M, O) (rsI r) (S', M, O)) : ∀ n : Nat, ∀ (x1 : Int32) (x2 : Int32) (x3 : Int32) (x4 : Int32) (x5 : Int32) (S : Sto) (r : Int32 ⊕ Nat) (S' : Sto), F_w_fleets_60 k45 n x1 x2 x3 x4 x5 S = some (r, S') → EX nL xs 1 MI_266 d 60 [some (.ref 0), some (.int x1), some (.int x2), some (.int x3), some (.int x4), some (.int x5)] [] (S, M, O) (rsI r) (S', M, O) := by
  intro n
  induction n with
  | zero => intro x1 x2 x3 x4 x5 S r S' hF; cases hF
  | succ n ih =>
  intro x1 x2 x3 x4 x5 S r S' hF
  unfold F_w_fleets_60 at hF
  refine Ex_go 5 (pc' := if (gi S 22) ≤ x5 then 120 else 72) (L' := [some (.ref 0), some (.int x1), some (.int x2), some (.int x3), some (.int x4), some (.int x5)]) (st' := []) (σ' := (S, M, O)) (rfl) ?_
  refine Ex_br (fun hc => ?_) (fun hc => ?_)
  · rw [if_pos hc] at hF
    refine Ex_go 2 (pc' := 45) (L' := [some (.ref 0), some (.int x1), some (.int x2), some (.int x3), some (.int (x4 + (1 : Int32))), some (.int x5)]) (st' := []) (σ' := (S, M, O)) (rfl) ?_
    exact Ex_mono (L := [some (.ref 0), some (.int x1), some (.int x2), some (.int x3), some (.int (x4 + (1 : Int32))), none]) (Le_s (Le_s (Le_s (Le_s (Le_s (Le_n (Le_0))))))) (hk45 _ _ _ _ _ _ _ hF) (Nat.le_refl _) (by omega)
  · rw [if_neg hc] at hF
    refine Ex_go 3 (pc' := 77) (L' := [some (.ref 0), some (.int x1), some (.int x2), some (.int x3), some (.int x4), some (.int x5)]) (st' := [.int x5, .int x4, .ref 0]) (σ' := (S, M, O)) (rfl) ?_
    obtain ⟨r1, hx2, hF⟩ := b1_i hF
    refine Ex_callK (K1 := 0) (K2 := 1) (kind := 2) (y := 265) (as := [.ref 0, .int x4, .int x5]) (rest := []) (L0 := [some (.ref 0), some (.int x4), some (.int x5), none, none, none]) (d' := 4) (v := some (.int r1)) (σ1 := (S, M, O)) rfl rfl mt_265 rfl rfl (by omega) (X_w_staysWith (Nat.le_refl _) _ _ _ _ hx2) (Ex_st (st2 := [.int r1]) rfl ?_) (by omega)
    refine Ex_go 1 (pc' := if r1 = 0 then 114 else 83) (L' := [some (.ref 0), some (.int x1), some (.int x2), some (.int x3), some (.int x4), some (.int x5)]) (st' := []) (σ' := (S, M, O)) (rfl) ?_
    refine Ex_br (fun hc => ?_) (fun hc => ?_)
    · rw [if_pos hc] at hF
      exact Ex_mono (L := [some (.ref 0), some (.int x1), some (.int x2), some (.int x3), some (.int x4), some (.int x5)]) (Le_s (Le_s (Le_s (Le_s (Le_s (Le_s (Le_0))))))) (X_w_fleets_114 hd hk45 ih _ _ _ _ _ _ _ _ hF) (Nat.le_refl _) (by omega)
    · rw [if_neg hc] at hF
      refine Ex_go 3 (pc' := 88) (L' := [some (.ref 0), some (.int x1), some (.int x2), some (.int x3), some (.int x4), some (.int x5)]) (st' := [.int x4, .int x5, .ref 0]) (σ' := (S, M, O)) (rfl) ?_
      obtain ⟨r3, hx4, hF⟩ := b1_i hF
      refine Ex_callK (K1 := 0) (K2 := 1) (kind := 2) (y := 265) (as := [.ref 0, .int x5, .int x4]) (rest := []) (L0 := [some (.ref 0), some (.int x5), some (.int x4), none, none, none]) (d' := 4) (v := some (.int r3)) (σ1 := (S, M, O)) rfl rfl mt_265 rfl rfl (by omega) (X_w_staysWith (Nat.le_refl _) _ _ _ _ hx4) (Ex_st (st2 := [.int r3]) rfl ?_) (by omega)
      refine Ex_go 1 (pc' := if r3 = 0 then 114 else 94) (L' := [some (.ref 0), some (.int x1), some (.int x2), some (.int x3), some (.int x4), some (.int x5)]) (st' := []) (σ' := (S, M, O)) (rfl) ?_
      refine Ex_br (fun hc => ?_) (fun hc => ?_)
      · rw [if_pos hc] at hF
        exact Ex_mono (L := [some (.ref 0), some (.int x1), some (.int x2), some (.int x3), some (.int x4), some (.int x5)]) (Le_s (Le_s (Le_s (Le_s (Le_s (Le_s (Le_0))))))) (X_w_fleets_114 hd hk45 ih _ _ _ _ _ _ _ _ hF) (Nat.le_refl _) (by omega)
      · rw [if_neg hc] at hF
        refine Ex_go 2 (pc' := if ¬ x2 = 0 then 109 else 98) (L' := [some (.ref 0), some (.int x1), some (.int x2), some (.int x3), some (.int x4), some (.int x5)]) (st' := []) (σ' := (S, M, O)) (rfl) ?_
        refine Ex_brN (fun hc => ?_) (fun hc => ?_)
        · rw [if_pos hc] at hF
          refine Ex_go 6 (pc' := 110) (L' := [some (.ref 0), some (.int x1), some (.int x2), some (.int x3), some (.int x4), some (.int x5)]) (st' := [.int (((10 : Int32) * x4) + x5)]) (σ' := (S, M, O)) (rfl) ?_
          exact Ex_mono (L := [some (.ref 0), some (.int x1), some (.int x2), none, some (.int x4), some (.int x5)]) (Le_s (Le_s (Le_s (Le_n (Le_s (Le_s (Le_0))))))) (X_w_fleets_110 hd hk45 ih _ _ _ _ _ _ _ _ hF) (Nat.le_refl _) (by omega)
        · rw [if_neg hc] at hF
          refine Ex_go 1 (pc' := 110) (L' := [some (.ref 0), some (.int x1), some (.int x2), some (.int x3), some (.int x4), some (.int x5)]) (st' := [.int x3]) (σ' := (S, M, O)) (rfl) ?_
          exact Ex_mono (L := [some (.ref 0), some (.int x1), some (.int x2), none, some (.int x4), some (.int x5)]) (Le_s (Le_s (Le_s (Le_n (Le_s (Le_s (Le_0))))))) (X_w_fleets_110 hd hk45 ih _ _ _ _ _ _ _ _ hF) (Nat.le_refl _) (by omega)
def F_w_fleets_45 : Nat → Int32 → Int32 → Int32 → Int32 → Sto → Option ((Int32 ⊕ Nat) × Sto)
  | 0, _, _, _, _, _ => none
  | n + 1, x1, x2, x3, x4, S => if (gi S 22) ≤ x4 then if x1 = 0 then some ((.inl x2), S) else some ((.inl x3), S) else F_w_fleets_60 (F_w_fleets_45 n) FU x1 x2 x3 x4 (0 : Int32) S
set_option maxRecDepth 100000 in
theorem X_w_fleets_45 {nL : Nat} {xs : Nat → Int32} {M : Sto} {O : Sto} {d : Nat} (hd : 9 ≤ d) : ∀ n : Nat, ∀ (x1 : Int32) (x2 : Int32) (x3 : Int32) (x4 : Int32) (S : Sto) (r : Int32 ⊕ Nat) (S' : Sto), F_w_fleets_45 n x1 x2 x3 x4 S = some (r, S') → EX nL xs 1 MI_266 d 45 [some (.ref 0), some (.int x1), some (.int x2), some (.int x3), some (.int x4), none] [] (S, M, O) (rsI r) (S', M, O) := by
  intro n
  induction n with
  | zero => intro x1 x2 x3 x4 S r S' hF; cases hF
  | succ n ih =>
  intro x1 x2 x3 x4 S r S' hF
  unfold F_w_fleets_45 at hF
  refine Ex_go 5 (pc' := if (gi S 22) ≤ x4 then 126 else 57) (L' := [some (.ref 0), some (.int x1), some (.int x2), some (.int x3), some (.int x4), none]) (st' := []) (σ' := (S, M, O)) (rfl) ?_
  refine Ex_br (fun hc => ?_) (fun hc => ?_)
  · rw [if_pos hc] at hF
    refine Ex_go 2 (pc' := if ¬ x1 = 0 then 134 else 130) (L' := [some (.ref 0), some (.int x1), some (.int x2), some (.int x3), some (.int x4), none]) (st' := []) (σ' := (S, M, O)) (rfl) ?_
    refine Ex_brN (fun hc => ?_) (fun hc => ?_)
    · rw [if_pos hc] at hF
      refine Ex_go 2 (pc' := 135) (L' := [some (.ref 0), some (.int x1), some (.int x2), some (.int x3), some (.int x4), none]) (st' := [.int x2]) (σ' := (S, M, O)) (rfl) ?_
      cases hF
      exact Ex_fin rfl
    · rw [if_neg hc] at hF
      refine Ex_go 1 (pc' := 135) (L' := [some (.ref 0), some (.int x1), some (.int x2), some (.int x3), some (.int x4), none]) (st' := [.int x3]) (σ' := (S, M, O)) (rfl) ?_
      cases hF
      exact Ex_fin rfl
  · rw [if_neg hc] at hF
    refine Ex_go 2 (pc' := 60) (L' := [some (.ref 0), some (.int x1), some (.int x2), some (.int x3), some (.int x4), some (.int (0 : Int32))]) (st' := []) (σ' := (S, M, O)) (rfl) ?_
    exact Ex_mono (L := [some (.ref 0), some (.int x1), some (.int x2), some (.int x3), some (.int x4), some (.int (0 : Int32))]) (Le_s (Le_s (Le_s (Le_s (Le_s (Le_s (Le_0))))))) (X_w_fleets_60 hd ih FU _ _ _ _ _ _ _ _ hF) (Nat.le_refl _) (by omega)
def F_w_fleets (x1 : Int32) (S : Sto) : Option ((Int32 ⊕ Nat) × Sto) := if x1 < 0 then F_w_fleets_9 S else if x1 ≤ (1 : Int32) then b2 (F_Sh_measure (gl S 26) (gl S 27) S) (fun r1 S3 => F_w_fleets_45 FU x1 (0 : Int32) (-1 : Int32) (0 : Int32) S3) else F_w_fleets_9 S
set_option maxRecDepth 100000 in
theorem X_w_fleets {nL : Nat} {xs : Nat → Int32} {M : Sto} {O : Sto} {d : Nat} (hd : 9 ≤ d) : ∀ (x1 : Int32) (S : Sto) (r : Int32 ⊕ Nat) (S' : Sto), F_w_fleets x1 S = some (r, S') → EX nL xs 1 MI_266 d 0 [some (.ref 0), some (.int x1), none, none, none, none] [] (S, M, O) (rsI r) (S', M, O) := by
  intro x1 S r S' hF
  unfold F_w_fleets at hF
  refine Ex_go 2 (pc' := if x1 < 0 then 9 else 4) (L' := [some (.ref 0), some (.int x1), none, none, none, none]) (st' := []) (σ' := (S, M, O)) (rfl) ?_
  refine Ex_br (fun hc => ?_) (fun hc => ?_)
  · rw [if_pos hc] at hF
    exact Ex_mono (L := [none, none, none, none, none, none]) (Le_n (Le_n (Le_n (Le_n (Le_n (Le_n (Le_0))))))) (X_w_fleets_9 hd _ _ _ hF) (Nat.le_refl _) (by omega)
  · rw [if_neg hc] at hF
    refine Ex_go 3 (pc' := if x1 ≤ (1 : Int32) then 17 else 9) (L' := [some (.ref 0), some (.int x1), none, none, none, none]) (st' := []) (σ' := (S, M, O)) (rfl) ?_
    refine Ex_br (fun hc => ?_) (fun hc => ?_)
    · rw [if_pos hc] at hF
      refine Ex_go 8 (pc' := 35) (L' := [some (.ref 0), some (.int x1), none, none, none, none]) (st' := [.long (gl S 27), .long (gl S 26), .ref 21]) (σ' := (S, M, O)) (rfl) ?_
      obtain ⟨r1, S3, hx2, hF⟩ := b2_i hF
      refine Ex_callK (K1 := 0) (K2 := 1) (kind := 2) (y := 143) (as := [.ref 21, .long (gl S 26), .long (gl S 27)]) (rest := []) (L0 := [some (.ref 21), some (.long (gl S 26)), none, some (.long (gl S 27)), none, none]) (d' := 8) (v := none) (σ1 := (S3, M, O)) rfl rfl mt_143 rfl rfl (by omega) (X_Sh_measure (Nat.le_refl _) _ _ _ _ _ hx2) (Ex_st (st2 := []) rfl ?_) (by omega)
      refine Ex_go 6 (pc' := 45) (L' := [some (.ref 0), some (.int x1), some (.int (0 : Int32)), some (.int (-1 : Int32)), some (.int (0 : Int32)), none]) (st' := []) (σ' := (S3, M, O)) (rfl) ?_
      exact Ex_mono (L := [some (.ref 0), some (.int x1), some (.int (0 : Int32)), some (.int (-1 : Int32)), some (.int (0 : Int32)), none]) (Le_s (Le_s (Le_s (Le_s (Le_s (Le_n (Le_0))))))) (X_w_fleets_45 hd FU _ _ _ _ _ _ _ hF) (Nat.le_refl _) (by omega)
    · rw [if_neg hc] at hF
      exact Ex_mono (L := [none, none, none, none, none, none]) (Le_n (Le_n (Le_n (Le_n (Le_n (Le_n (Le_0))))))) (X_w_fleets_9 hd _ _ _ hF) (Nat.le_refl _) (by omega)
def F_l_fleets (x1 : Int32) (S : Sto) (O : Sto) : Option (Int32 × Sto × Sto) := b2 (F_w_fleets x1 S) (fun r1 S3 => su r1 (fun v4 => some ((0 : Int32), S3, (ul O 2000 (vp_updL (al O 2000) (Int32.toNatClampNeg (0 : Int32)) (Int32.toInt64 v4))))) (fun z5 => if z5 = 1 then some ((1 : Int32), S3, O) else (none)))
set_option maxRecDepth 100000 in
theorem X_l_fleets {nL : Nat} {xs : Nat → Int32} {M : Sto} {d : Nat} (hd : 10 ≤ d) : ∀ (x1 : Int32) (S : Sto) (O : Sto) (r : Int32) (S' : Sto) (O' : Sto), F_l_fleets x1 S O = some (r, S', O') → EX nL xs 1 MI_267 d 0 [some (.ref 0), some (.int x1), some (.ref 2000), none] [] (S, M, O) (.inl (some (.int r))) (S', M, O') := by
  intro x1 S O r S' O' hF
  unfold F_l_fleets at hF
  refine Ex_go 4 (pc' := 4) (L' := [some (.ref 0), some (.int x1), some (.ref 2000), none]) (st' := [.int x1, .ref 0, .int (0 : Int32), .ref 2000]) (σ' := (S, M, O)) (rfl) ?_
  obtain ⟨r1, S3, hx2, hF⟩ := b2_i hF
  cases r1 with
  | inl v4 =>
    rw [su_l] at hF
    refine Ex_callK (K1 := 1) (K2 := 0) (kind := 3) (y := 266) (as := [.ref 0, .int x1]) (rest := [.int (0 : Int32), .ref 2000]) (L0 := [some (.ref 0), some (.int x1), none, none, none, none]) (d' := 9) (v := some (.int v4)) (σ1 := (S3, M, O)) rfl rfl mt_266 rfl rfl (by omega) (X_w_fleets (Nat.le_refl _) _ _ _ _ hx2) (Ex_st (st2 := [.int v4, .int (0 : Int32), .ref 2000]) rfl ?_) (by omega)
    refine Ex_go 1 (pc' := 8) (L' := [some (.ref 0), some (.int x1), some (.ref 2000), none]) (st' := [.long (Int32.toInt64 v4), .int (0 : Int32), .ref 2000]) (σ' := (S3, M, O)) (rfl) ?_
    refine Ex_chk (b := ib (0 : Int32) 1) (pc' := 9) (L' := [some (.ref 0), some (.int x1), some (.ref 2000), none]) (st' := []) (σ' := (S3, M, (ul O 2000 (vp_updL (al O 2000) (Int32.toNatClampNeg (0 : Int32)) (Int32.toInt64 v4))))) rfl (by decide) ?_
    refine Ex_go 2 (pc' := 16) (L' := [some (.ref 0), some (.int x1), some (.ref 2000), none]) (st' := [.int (0 : Int32)]) (σ' := (S3, M, (ul O 2000 (vp_updL (al O 2000) (Int32.toNatClampNeg (0 : Int32)) (Int32.toInt64 v4))))) (rfl) ?_
    cases hF
    exact Ex_fin rfl
  | inr z5 =>
    by_cases hz1 : z5 = 1
    · have hF : (if z5 = 1 then _ else _) = _ := hF
      rw [if_pos hz1] at hF
      subst hz1
      refine Ex_callX (K1 := 1) (K2 := 0) (y := 266) (as := [.ref 0, .int x1]) (rest := [.int (0 : Int32), .ref 2000]) (L0 := [some (.ref 0), some (.int x1), none, none, none, none]) (d' := 9) (σ1 := (S3, M, O)) (x := 1) (pc' := 13) (i := 3) rfl rfl mt_266 rfl rfl (by omega) (X_w_fleets (Nat.le_refl _) _ _ _ _ hx2) rfl (Ex_L (L2 := [some (.ref 0), some (.int x1), some (.ref 2000), none]) rfl ?_) (by omega)
      refine Ex_go 1 (pc' := 14) (L' := [some (.ref 0), some (.int x1), some (.ref 2000), none]) (st' := [.int (1 : Int32)]) (σ' := (S3, M, O)) (rfl) ?_
      cases hF
      exact Ex_fin rfl
    have hF : (if z5 = 1 then _ else _) = _ := hF
    rw [if_neg hz1] at hF
    cases hF
def F_m_gets (x1 : Int32) (x2 : Int32) (M : Sto) : Option Int64 := ck (ib (((8 : Int32) * x1) + x2) 64) (ck (ib (((8 : Int32) * x1) + x1) 64) (some (((al M 1026 (Int32.toNatClampNeg (((8 : Int32) * x1) + x1))) - (al M 1026 (Int32.toNatClampNeg (((8 : Int32) * x1) + x2)))) + ((al M 1026 (Int32.toNatClampNeg (((8 : Int32) * x1) + x2))) / (2 : Int64)))))
set_option maxRecDepth 100000 in
theorem X_m_gets {nL : Nat} {xs : Nat → Int32} {S : Sto} {O : Sto} {d : Nat} (hd : 1 ≤ d) : ∀ (x1 : Int32) (x2 : Int32) (M : Sto) (r : Int64), F_m_gets x1 x2 M = some r → EX nL xs 0 MI_268 d 0 [some (.ref 1000), some (.int x1), some (.int x2), none, none] [] (S, M, O) (.inl (some (.long r))) (S, M, O) := by
  intro x1 x2 M r hF
  unfold F_m_gets at hF
  refine Ex_go 7 (pc' := 10) (L' := [some (.ref 1000), some (.int x1), some (.int x2), none, none]) (st' := [.int (((8 : Int32) * x1) + x2), .ref 1026]) (σ' := (S, M, O)) (rfl) ?_
  obtain ⟨hc1, hF⟩ := ck_i hF
  refine Ex_chk (b := ib (((8 : Int32) * x1) + x2) 64) (pc' := 11) (L' := [some (.ref 1000), some (.int x1), some (.int x2), none, none]) (st' := [.long (al M 1026 (Int32.toNatClampNeg (((8 : Int32) * x1) + x2)))]) (σ' := (S, M, O)) rfl hc1 ?_
  refine Ex_go 8 (pc' := 22) (L' := [some (.ref 1000), some (.int x1), some (.int x2), some (.long (al M 1026 (Int32.toNatClampNeg (((8 : Int32) * x1) + x2)))), none]) (st' := [.int (((8 : Int32) * x1) + x1), .ref 1026]) (σ' := (S, M, O)) (rfl) ?_
  obtain ⟨hc2, hF⟩ := ck_i hF
  refine Ex_chk (b := ib (((8 : Int32) * x1) + x1) 64) (pc' := 23) (L' := [some (.ref 1000), some (.int x1), some (.int x2), some (.long (al M 1026 (Int32.toNatClampNeg (((8 : Int32) * x1) + x2)))), none]) (st' := [.long (al M 1026 (Int32.toNatClampNeg (((8 : Int32) * x1) + x1)))]) (σ' := (S, M, O)) rfl hc2 ?_
  refine Ex_go 4 (pc' := 29) (L' := [some (.ref 1000), some (.int x1), some (.int x2), some (.long (al M 1026 (Int32.toNatClampNeg (((8 : Int32) * x1) + x2)))), none]) (st' := [.long (2 : Int64), .long (al M 1026 (Int32.toNatClampNeg (((8 : Int32) * x1) + x2))), .long ((al M 1026 (Int32.toNatClampNeg (((8 : Int32) * x1) + x1))) - (al M 1026 (Int32.toNatClampNeg (((8 : Int32) * x1) + x2))))]) (σ' := (S, M, O)) (rfl) ?_
  refine Ex_chk (b := nzL (2 : Int64)) (pc' := 30) (L' := [some (.ref 1000), some (.int x1), some (.int x2), some (.long (al M 1026 (Int32.toNatClampNeg (((8 : Int32) * x1) + x2)))), none]) (st' := [.long ((al M 1026 (Int32.toNatClampNeg (((8 : Int32) * x1) + x2))) / (2 : Int64)), .long ((al M 1026 (Int32.toNatClampNeg (((8 : Int32) * x1) + x1))) - (al M 1026 (Int32.toNatClampNeg (((8 : Int32) * x1) + x2))))]) (σ' := (S, M, O)) rfl (by decide) ?_
  refine Ex_go 1 (pc' := 31) (L' := [some (.ref 1000), some (.int x1), some (.int x2), some (.long (al M 1026 (Int32.toNatClampNeg (((8 : Int32) * x1) + x2)))), none]) (st' := [.long (((al M 1026 (Int32.toNatClampNeg (((8 : Int32) * x1) + x1))) - (al M 1026 (Int32.toNatClampNeg (((8 : Int32) * x1) + x2)))) + ((al M 1026 (Int32.toNatClampNeg (((8 : Int32) * x1) + x2))) / (2 : Int64)))]) (σ' := (S, M, O)) (rfl) ?_
  cases hF
  exact Ex_fin rfl
def F_m_rests_2 : Nat → Int32 → Int32 → Int32 → Sto → Option Int32
  | 0, _, _, _, _ => none
  | n + 1, x1, x2, x3, M => if (ai M 1003 (Int32.toNatClampNeg (0 : Int32))) ≤ x3 then some (1 : Int32) else b1 (F_m_gets x3 x2 M) (fun r1 => b1 (F_m_gets x1 x2 M) (fun r3 => if r3 < r1 then some (0 : Int32) else b1 (F_m_gets x3 x1 M) (fun r5 => b1 (F_m_gets x2 x1 M) (fun r7 => if r5 ≤ r7 then F_m_rests_2 n x1 x2 (x3 + (1 : Int32)) M else some (0 : Int32)))))
set_option maxRecDepth 100000 in
theorem X_m_rests_2 {nL : Nat} {xs : Nat → Int32} {S : Sto} {O : Sto} {d : Nat} (hd : 2 ≤ d) : ∀ n : Nat, ∀ (x1 : Int32) (x2 : Int32) (x3 : Int32) (M : Sto) (r : Int32), F_m_rests_2 n x1 x2 x3 M = some r → EX nL xs 0 MI_269 d 2 [some (.ref 1000), some (.int x1), some (.int x2), some (.int x3)] [] (S, M, O) (.inl (some (.int r))) (S, M, O) := by
  intro n
  induction n with
  | zero => intro x1 x2 x3 M r hF; cases hF
  | succ n ih =>
  intro x1 x2 x3 M r hF
  unfold F_m_rests_2 at hF
  refine Ex_go 4 (pc' := 8) (L' := [some (.ref 1000), some (.int x1), some (.int x2), some (.int x3)]) (st' := [.int (0 : Int32), .ref 1003, .int x3]) (σ' := (S, M, O)) (rfl) ?_
  refine Ex_chk (b := ib (0 : Int32) 6) (pc' := 9) (L' := [some (.ref 1000), some (.int x1), some (.int x2), some (.int x3)]) (st' := [.int (ai M 1003 (Int32.toNatClampNeg (0 : Int32))), .int x3]) (σ' := (S, M, O)) rfl (by decide) ?_
  refine Ex_go 1 (pc' := if (ai M 1003 (Int32.toNatClampNeg (0 : Int32))) ≤ x3 then 52 else 12) (L' := [some (.ref 1000), some (.int x1), some (.int x2), some (.int x3)]) (st' := []) (σ' := (S, M, O)) (rfl) ?_
  refine Ex_br (fun hc => ?_) (fun hc => ?_)
  · rw [if_pos hc] at hF
    refine Ex_go 1 (pc' := 53) (L' := [some (.ref 1000), some (.int x1), some (.int x2), some (.int x3)]) (st' := [.int (1 : Int32)]) (σ' := (S, M, O)) (rfl) ?_
    cases hF
    exact Ex_fin rfl
  · rw [if_neg hc] at hF
    refine Ex_go 3 (pc' := 15) (L' := [some (.ref 1000), some (.int x1), some (.int x2), some (.int x3)]) (st' := [.int x2, .int x3, .ref 1000]) (σ' := (S, M, O)) (rfl) ?_
    obtain ⟨r1, hx2, hF⟩ := b1_i hF
    refine Ex_call (kind := 2) (y := 268) (as := [.ref 1000, .int x3, .int x2]) (rest := []) (L0 := [some (.ref 1000), some (.int x3), some (.int x2), none, none]) (d' := 1) (v := some (.long r1)) (σ1 := (S, M, O)) rfl rfl mt_268 rfl rfl (by omega) (X_m_gets (Nat.le_refl _) _ _ _ _ hx2) (Ex_st (st2 := [.long r1]) rfl ?_)
    refine Ex_go 3 (pc' := 21) (L' := [some (.ref 1000), some (.int x1), some (.int x2), some (.int x3)]) (st' := [.int x2, .int x1, .ref 1000, .long r1]) (σ' := (S, M, O)) (rfl) ?_
    obtain ⟨r3, hx4, hF⟩ := b1_i hF
    refine Ex_call (kind := 2) (y := 268) (as := [.ref 1000, .int x1, .int x2]) (rest := [.long r1]) (L0 := [some (.ref 1000), some (.int x1), some (.int x2), none, none]) (d' := 1) (v := some (.long r3)) (σ1 := (S, M, O)) rfl rfl mt_268 rfl rfl (by omega) (X_m_gets (Nat.le_refl _) _ _ _ _ hx4) (Ex_st (st2 := [.long r3, .long r1]) rfl ?_)
    refine Ex_go 2 (pc' := if 0 < (lg_cmp r1 r3) then 44 else 28) (L' := [some (.ref 1000), some (.int x1), some (.int x2), some (.int x3)]) (st' := []) (σ' := (S, M, O)) (rfl) ?_
    refine Ex_brI lc_gt (fun hc => ?_) (fun hc => ?_)
    · rw [if_pos hc] at hF
      refine Ex_go 1 (pc' := 45) (L' := [some (.ref 1000), some (.int x1), some (.int x2), some (.int x3)]) (st' := [.int (0 : Int32)]) (σ' := (S, M, O)) (rfl) ?_
      cases hF
      exact Ex_fin rfl
    · rw [if_neg hc] at hF
      refine Ex_go 3 (pc' := 31) (L' := [some (.ref 1000), some (.int x1), some (.int x2), some (.int x3)]) (st' := [.int x1, .int x3, .ref 1000]) (σ' := (S, M, O)) (rfl) ?_
      obtain ⟨r5, hx6, hF⟩ := b1_i hF
      refine Ex_call (kind := 2) (y := 268) (as := [.ref 1000, .int x3, .int x1]) (rest := []) (L0 := [some (.ref 1000), some (.int x3), some (.int x1), none, none]) (d' := 1) (v := some (.long r5)) (σ1 := (S, M, O)) rfl rfl mt_268 rfl rfl (by omega) (X_m_gets (Nat.le_refl _) _ _ _ _ hx6) (Ex_st (st2 := [.long r5]) rfl ?_)
      refine Ex_go 3 (pc' := 37) (L' := [some (.ref 1000), some (.int x1), some (.int x2), some (.int x3)]) (st' := [.int x1, .int x2, .ref 1000, .long r5]) (σ' := (S, M, O)) (rfl) ?_
      obtain ⟨r7, hx8, hF⟩ := b1_i hF
      refine Ex_call (kind := 2) (y := 268) (as := [.ref 1000, .int x2, .int x1]) (rest := [.long r5]) (L0 := [some (.ref 1000), some (.int x2), some (.int x1), none, none]) (d' := 1) (v := some (.long r7)) (σ1 := (S, M, O)) rfl rfl mt_268 rfl rfl (by omega) (X_m_gets (Nat.le_refl _) _ _ _ _ hx8) (Ex_st (st2 := [.long r7, .long r5]) rfl ?_)
      refine Ex_go 2 (pc' := if (lg_cmp r5 r7) ≤ 0 then 46 else 44) (L' := [some (.ref 1000), some (.int x1), some (.int x2), some (.int x3)]) (st' := []) (σ' := (S, M, O)) (rfl) ?_
      refine Ex_brI lc_le (fun hc => ?_) (fun hc => ?_)
      · rw [if_pos hc] at hF
        refine Ex_go 2 (pc' := 2) (L' := [some (.ref 1000), some (.int x1), some (.int x2), some (.int (x3 + (1 : Int32)))]) (st' := []) (σ' := (S, M, O)) (rfl) ?_
        exact Ex_mono (L := [some (.ref 1000), some (.int x1), some (.int x2), some (.int (x3 + (1 : Int32)))]) (Le_s (Le_s (Le_s (Le_s (Le_0))))) (ih _ _ _ _ _ hF) (Nat.le_refl _) (by omega)
      · rw [if_neg hc] at hF
        refine Ex_go 1 (pc' := 45) (L' := [some (.ref 1000), some (.int x1), some (.int x2), some (.int x3)]) (st' := [.int (0 : Int32)]) (σ' := (S, M, O)) (rfl) ?_
        cases hF
        exact Ex_fin rfl
def F_m_rests (x1 : Int32) (x2 : Int32) (M : Sto) : Option Int32 := F_m_rests_2 FU x1 x2 (0 : Int32) M
set_option maxRecDepth 100000 in
theorem X_m_rests {nL : Nat} {xs : Nat → Int32} {S : Sto} {O : Sto} {d : Nat} (hd : 2 ≤ d) : ∀ (x1 : Int32) (x2 : Int32) (M : Sto) (r : Int32), F_m_rests x1 x2 M = some r → EX nL xs 0 MI_269 d 0 [some (.ref 1000), some (.int x1), some (.int x2), none] [] (S, M, O) (.inl (some (.int r))) (S, M, O) := by
  intro x1 x2 M r hF
  unfold F_m_rests at hF
  refine Ex_go 2 (pc' := 2) (L' := [some (.ref 1000), some (.int x1), some (.int x2), some (.int (0 : Int32))]) (st' := []) (σ' := (S, M, O)) (rfl) ?_
  exact Ex_mono (L := [some (.ref 1000), some (.int x1), some (.int x2), some (.int (0 : Int32))]) (Le_s (Le_s (Le_s (Le_s (Le_0))))) (X_m_rests_2 hd FU _ _ _ _ _ hF) (Nat.le_refl _) (by omega)
def F_m_common_6 : Nat → Int64 → Int64 → Option Int64
  | 0, _, _ => none
  | n + 1, x4, x6 => if x6 = (0 : Int64) then some x4 else ck (nzL x6) (F_m_common_6 n x6 (x4 - x4 / x6 * x6))
set_option maxRecDepth 100000 in
theorem X_m_common_6 {nL : Nat} {xs : Nat → Int32} {S : Sto} {M : Sto} {O : Sto} {d : Nat} (hd : 1 ≤ d) : ∀ n : Nat, ∀ (x4 : Int64) (x6 : Int64) (r : Int64), F_m_common_6 n x4 x6 = some r → EX nL xs 0 MI_135 d 6 [none, none, none, none, some (.long x4), none, some (.long x6), none, none, none] [] (S, M, O) (.inl (some (.long r))) (S, M, O) := by
  intro n
  induction n with
  | zero => intro x4 x6 r hF; cases hF
  | succ n ih =>
  intro x4 x6 r hF
  unfold F_m_common_6 at hF
  refine Ex_go 4 (pc' := if (lg_cmp x6 (0 : Int64)) = 0 then 31 else 13) (L' := [none, none, none, none, some (.long x4), none, some (.long x6), none, none, none]) (st' := []) (σ' := (S, M, O)) (rfl) ?_
  refine Ex_brI lc_eq (fun hc => ?_) (fun hc => ?_)
  · rw [if_pos hc] at hF
    refine Ex_go 1 (pc' := 33) (L' := [none, none, none, none, some (.long x4), none, some (.long x6), none, none, none]) (st' := [.long x4]) (σ' := (S, M, O)) (rfl) ?_
    cases hF
    exact Ex_fin rfl
  · rw [if_neg hc] at hF
    refine Ex_go 2 (pc' := 17) (L' := [none, none, none, none, some (.long x4), none, some (.long x6), none, none, none]) (st' := [.long x6, .long x4]) (σ' := (S, M, O)) (rfl) ?_
    obtain ⟨hc1, hF⟩ := ck_i hF
    refine Ex_chk (b := nzL x6) (pc' := 18) (L' := [none, none, none, none, some (.long x4), none, some (.long x6), none, none, none]) (st' := [.long (x4 - x4 / x6 * x6)]) (σ' := (S, M, O)) rfl hc1 ?_
    refine Ex_go 6 (pc' := 6) (L' := [none, none, none, none, some (.long x6), none, some (.long (x4 - x4 / x6 * x6)), none, some (.long (x4 - x4 / x6 * x6)), none]) (st' := []) (σ' := (S, M, O)) (rfl) ?_
    exact Ex_mono (L := [none, none, none, none, some (.long x6), none, some (.long (x4 - x4 / x6 * x6)), none, none, none]) (Le_n (Le_n (Le_n (Le_n (Le_s (Le_n (Le_s (Le_n (Le_n (Le_n (Le_0))))))))))) (ih _ _ _ hF) (Nat.le_refl _) (by omega)
def F_m_common (x0 : Int64) (x2 : Int64) : Option Int64 := F_m_common_6 FU x0 x2
set_option maxRecDepth 100000 in
theorem X_m_common {nL : Nat} {xs : Nat → Int32} {S : Sto} {M : Sto} {O : Sto} {d : Nat} (hd : 1 ≤ d) : ∀ (x0 : Int64) (x2 : Int64) (r : Int64), F_m_common x0 x2 = some r → EX nL xs 0 MI_135 d 0 [some (.long x0), none, some (.long x2), none, none, none, none, none, none, none] [] (S, M, O) (.inl (some (.long r))) (S, M, O) := by
  intro x0 x2 r hF
  unfold F_m_common at hF
  refine Ex_go 4 (pc' := 6) (L' := [some (.long x0), none, some (.long x2), none, some (.long x0), none, some (.long x2), none, none, none]) (st' := []) (σ' := (S, M, O)) (rfl) ?_
  exact Ex_mono (L := [none, none, none, none, some (.long x0), none, some (.long x2), none, none, none]) (Le_n (Le_n (Le_n (Le_n (Le_s (Le_n (Le_s (Le_n (Le_n (Le_n (Le_0))))))))))) (X_m_common_6 hd FU _ _ _ hF) (Nat.le_refl _) (by omega)
def F_m_timesFor_14 : Nat → Int64 → Int64 → Int64 → Int64 → Int64 → Int64 → Option Int64
  | 0, _, _, _, _, _, _ => none
  | n + 1, x2, x4, x6, x8, x10, x12 => if x8 = (0 : Int64) then ck (nzL x2) (ck (nzL x2) (ck (nzL x2) (some (((((x10 - x10 / x2 * x2) + x2) - ((x10 - x10 / x2 * x2) + x2) / x2 * x2) * x4) - ((((x10 - x10 / x2 * x2) + x2) - ((x10 - x10 / x2 * x2) + x2) / x2 * x2) * x4) / x2 * x2)))) else ck (nzL x8) (F_m_timesFor_14 n x2 x4 x8 (x6 - ((x6 / x8) * x8)) x12 (x10 - ((x6 / x8) * x12)))
set_option maxRecDepth 100000 in
theorem X_m_timesFor_14 {nL : Nat} {xs : Nat → Int32} {S : Sto} {M : Sto} {O : Sto} {d : Nat} (hd : 1 ≤ d) : ∀ n : Nat, ∀ (x2 : Int64) (x4 : Int64) (x6 : Int64) (x8 : Int64) (x10 : Int64) (x12 : Int64) (r : Int64), F_m_timesFor_14 n x2 x4 x6 x8 x10 x12 = some r → EX nL xs 0 MI_136 d 14 [none, none, some (.long x2), none, some (.long x4), none, some (.long x6), none, some (.long x8), none, some (.long x10), none, some (.long x12), none, none, none, none, none] [] (S, M, O) (.inl (some (.long r))) (S, M, O) := by
  intro n
  induction n with
  | zero => intro x2 x4 x6 x8 x10 x12 r hF; cases hF
  | succ n ih =>
  intro x2 x4 x6 x8 x10 x12 r hF
  unfold F_m_timesFor_14 at hF
  refine Ex_go 4 (pc' := if (lg_cmp x8 (0 : Int64)) = 0 then 67 else 21) (L' := [none, none, some (.long x2), none, some (.long x4), none, some (.long x6), none, some (.long x8), none, some (.long x10), none, some (.long x12), none, none, none, none, none]) (st' := []) (σ' := (S, M, O)) (rfl) ?_
  refine Ex_brI lc_eq (fun hc => ?_) (fun hc => ?_)
  · rw [if_pos hc] at hF
    refine Ex_go 2 (pc' := 70) (L' := [none, none, some (.long x2), none, some (.long x4), none, some (.long x6), none, some (.long x8), none, some (.long x10), none, some (.long x12), none, none, none, none, none]) (st' := [.long x2, .long x10]) (σ' := (S, M, O)) (rfl) ?_
    obtain ⟨hc1, hF⟩ := ck_i hF
    refine Ex_chk (b := nzL x2) (pc' := 71) (L' := [none, none, some (.long x2), none, some (.long x4), none, some (.long x6), none, some (.long x8), none, some (.long x10), none, some (.long x12), none, none, none, none, none]) (st' := [.long (x10 - x10 / x2 * x2)]) (σ' := (S, M, O)) rfl hc1 ?_
    refine Ex_go 3 (pc' := 74) (L' := [none, none, some (.long x2), none, some (.long x4), none, some (.long x6), none, some (.long x8), none, some (.long x10), none, some (.long x12), none, none, none, none, none]) (st' := [.long x2, .long ((x10 - x10 / x2 * x2) + x2)]) (σ' := (S, M, O)) (rfl) ?_
    obtain ⟨hc2, hF⟩ := ck_i hF
    refine Ex_chk (b := nzL x2) (pc' := 75) (L' := [none, none, some (.long x2), none, some (.long x4), none, some (.long x6), none, some (.long x8), none, some (.long x10), none, some (.long x12), none, none, none, none, none]) (st' := [.long (((x10 - x10 / x2 * x2) + x2) - ((x10 - x10 / x2 * x2) + x2) / x2 * x2)]) (σ' := (S, M, O)) rfl hc2 ?_
    refine Ex_go 3 (pc' := 79) (L' := [none, none, some (.long x2), none, some (.long x4), none, some (.long x6), none, some (.long x8), none, some (.long x10), none, some (.long x12), none, none, none, none, none]) (st' := [.long x2, .long ((((x10 - x10 / x2 * x2) + x2) - ((x10 - x10 / x2 * x2) + x2) / x2 * x2) * x4)]) (σ' := (S, M, O)) (rfl) ?_
    obtain ⟨hc3, hF⟩ := ck_i hF
    refine Ex_chk (b := nzL x2) (pc' := 80) (L' := [none, none, some (.long x2), none, some (.long x4), none, some (.long x6), none, some (.long x8), none, some (.long x10), none, some (.long x12), none, none, none, none, none]) (st' := [.long (((((x10 - x10 / x2 * x2) + x2) - ((x10 - x10 / x2 * x2) + x2) / x2 * x2) * x4) - ((((x10 - x10 / x2 * x2) + x2) - ((x10 - x10 / x2 * x2) + x2) / x2 * x2) * x4) / x2 * x2)]) (σ' := (S, M, O)) rfl hc3 ?_
    cases hF
    exact Ex_fin rfl
  · rw [if_neg hc] at hF
    refine Ex_go 2 (pc' := 25) (L' := [none, none, some (.long x2), none, some (.long x4), none, some (.long x6), none, some (.long x8), none, some (.long x10), none, some (.long x12), none, none, none, none, none]) (st' := [.long x8, .long x6]) (σ' := (S, M, O)) (rfl) ?_
    obtain ⟨hc4, hF⟩ := ck_i hF
    refine Ex_chk (b := nzL x8) (pc' := 26) (L' := [none, none, some (.long x2), none, some (.long x4), none, some (.long x6), none, some (.long x8), none, some (.long x10), none, some (.long x12), none, none, none, none, none]) (st' := [.long (x6 / x8)]) (σ' := (S, M, O)) rfl hc4 ?_
    refine Ex_go 10 (pc' := 44) (L' := [none, none, some (.long x2), none, some (.long x4), none, some (.long x8), none, some (.long x8), none, some (.long x10), none, some (.long x12), none, some (.long (x6 / x8)), none, some (.long (x6 - ((x6 / x8) * x8))), none]) (st' := [.long (x6 - ((x6 / x8) * x8))]) (σ' := (S, M, O)) (rfl) ?_
    refine Ex_go 10 (pc' := 62) (L' := [none, none, some (.long x2), none, some (.long x4), none, some (.long x8), none, some (.long (x6 - ((x6 / x8) * x8))), none, some (.long x12), none, some (.long x12), none, some (.long (x6 / x8)), none, some (.long (x10 - ((x6 / x8) * x12))), none]) (st' := [.long (x10 - ((x6 / x8) * x12))]) (σ' := (S, M, O)) (rfl) ?_
    refine Ex_go 2 (pc' := 14) (L' := [none, none, some (.long x2), none, some (.long x4), none, some (.long x8), none, some (.long (x6 - ((x6 / x8) * x8))), none, some (.long x12), none, some (.long (x10 - ((x6 / x8) * x12))), none, some (.long (x6 / x8)), none, some (.long (x10 - ((x6 / x8) * x12))), none]) (st' := []) (σ' := (S, M, O)) (rfl) ?_
    exact Ex_mono (L := [none, none, some (.long x2), none, some (.long x4), none, some (.long x8), none, some (.long (x6 - ((x6 / x8) * x8))), none, some (.long x12), none, some (.long (x10 - ((x6 / x8) * x12))), none, none, none, none, none]) (Le_n (Le_n (Le_s (Le_n (Le_s (Le_n (Le_s (Le_n (Le_s (Le_n (Le_s (Le_n (Le_s (Le_n (Le_n (Le_n (Le_n (Le_n (Le_0))))))))))))))))))) (ih _ _ _ _ _ _ _ hF) (Nat.le_refl _) (by omega)
def F_m_timesFor (x0 : Int64) (x2 : Int64) (x4 : Int64) : Option Int64 := ck (nzL x2) (F_m_timesFor_14 FU x2 x4 (x0 - x0 / x2 * x2) x2 (1 : Int64) (0 : Int64))
set_option maxRecDepth 100000 in
theorem X_m_timesFor {nL : Nat} {xs : Nat → Int32} {S : Sto} {M : Sto} {O : Sto} {d : Nat} (hd : 1 ≤ d) : ∀ (x0 : Int64) (x2 : Int64) (x4 : Int64) (r : Int64), F_m_timesFor x0 x2 x4 = some r → EX nL xs 0 MI_136 d 0 [some (.long x0), none, some (.long x2), none, some (.long x4), none, none, none, none, none, none, none, none, none, none, none, none, none] [] (S, M, O) (.inl (some (.long r))) (S, M, O) := by
  intro x0 x2 x4 r hF
  unfold F_m_timesFor at hF
  refine Ex_go 2 (pc' := 2) (L' := [some (.long x0), none, some (.long x2), none, some (.long x4), none, none, none, none, none, none, none, none, none, none, none, none, none]) (st' := [.long x2, .long x0]) (σ' := (S, M, O)) (rfl) ?_
  obtain ⟨hc1, hF⟩ := ck_i hF
  refine Ex_chk (b := nzL x2) (pc' := 3) (L' := [some (.long x0), none, some (.long x2), none, some (.long x4), none, none, none, none, none, none, none, none, none, none, none, none, none]) (st' := [.long (x0 - x0 / x2 * x2)]) (σ' := (S, M, O)) rfl hc1 ?_
  refine Ex_go 7 (pc' := 14) (L' := [some (.long x0), none, some (.long x2), none, some (.long x4), none, some (.long (x0 - x0 / x2 * x2)), none, some (.long x2), none, some (.long (1 : Int64)), none, some (.long (0 : Int64)), none, none, none, none, none]) (st' := []) (σ' := (S, M, O)) (rfl) ?_
  exact Ex_mono (L := [none, none, some (.long x2), none, some (.long x4), none, some (.long (x0 - x0 / x2 * x2)), none, some (.long x2), none, some (.long (1 : Int64)), none, some (.long (0 : Int64)), none, none, none, none, none]) (Le_n (Le_n (Le_s (Le_n (Le_s (Le_n (Le_s (Le_n (Le_s (Le_n (Le_s (Le_n (Le_s (Le_n (Le_n (Le_n (Le_n (Le_n (Le_0))))))))))))))))))) (X_m_timesFor_14 hd FU _ _ _ _ _ _ _ hF) (Nat.le_refl _) (by omega)
def F_m_putIn_78 (s1 : Int32) (M : Sto) : Option (Unit × Sto) := ck (b01 s1) (some ((), (si M 1026 s1)))
set_option maxRecDepth 100000 in
theorem X_m_putIn_78 {nL : Nat} {xs : Nat → Int32} {S : Sto} {O : Sto} {d : Nat} (hd : 6 ≤ d) : ∀ (s1 : Int32) (M : Sto) (r : Unit) (M' : Sto), F_m_putIn_78 s1 M = some (r, M') → EX nL xs 0 MI_137 d 78 [none, none, none, none, none, none, none, none, none, none] [.int s1, .ref 1000] (S, M, O) (.inl none) (S, M', O) := by
  intro s1 M r M' hF
  unfold F_m_putIn_78 at hF
  obtain ⟨hc1, hF⟩ := ck_i hF
  refine Ex_chk (b := b01 s1) (pc' := 81) (L' := [none, none, none, none, none, none, none, none, none, none]) (st' := []) (σ' := (S, (si M 1026 s1), O)) rfl hc1 ?_
  cases hF
  exact Ex_fin rfl
def F_m_putIn (x1 : Int32) (M : Sto) : Option (Unit × Sto) := b1 (F_m_fromOf x1 M) (fun r1 => b1 (F_m_toOf x1 (sl M 1024 (mxL (gl M 1024) r1))) (fun r3 => if (gi (sl (sl M 1024 (mxL (gl M 1024) r1)) 1025 (mnL (gl (sl M 1024 (mxL (gl M 1024) r1)) 1025) r3)) 1026) = 0 then if (gl (sl (sl M 1024 (mxL (gl M 1024) r1)) 1025 (mnL (gl (sl M 1024 (mxL (gl M 1024) r1)) 1025) r3)) 1022) ≤ (1000000000000 : Int64) then ck (ib x1 16) (b1 (F_m_common (gl (sl (sl M 1024 (mxL (gl M 1024) r1)) 1025 (mnL (gl (sl M 1024 (mxL (gl M 1024) r1)) 1025) r3)) 1022) (al (sl (sl M 1024 (mxL (gl M 1024) r1)) 1025 (mnL (gl (sl M 1024 (mxL (gl M 1024) r1)) 1025) r3)) 1009 (Int32.toNatClampNeg x1))) (fun r6 => ck (ib x1 16) (nm ((al (sl (sl M 1024 (mxL (gl M 1024) r1)) 1025 (mnL (gl (sl M 1024 (mxL (gl M 1024) r1)) 1025) r3)) 1010 (Int32.toNatClampNeg x1)) - (gl (sl (sl M 1024 (mxL (gl M 1024) r1)) 1025 (mnL (gl (sl M 1024 (mxL (gl M 1024) r1)) 1025) r3)) 1023)) (fun t9 => ck (nzL r6) (if (t9 - t9 / r6 * r6) = (0 : Int64) then ck (ib x1 16) (ck (nzL r6) (nm ((al (sl (sl M 1024 (mxL (gl M 1024) r1)) 1025 (mnL (gl (sl M 1024 (mxL (gl M 1024) r1)) 1025) r3)) 1009 (Int32.toNatClampNeg x1)) / r6) (fun t14 => ck (nzL r6) (ck (nzL t14) (ck (nzL t14) (nm ((((t9 / r6) - (t9 / r6) / t14 * t14) + t14) - (((t9 / r6) - (t9 / r6) / t14 * t14) + t14) / t14 * t14) (fun t19 => ck (nzL r6) (b1 (F_m_timesFor ((gl (sl (sl M 1024 (mxL (gl M 1024) r1)) 1025 (mnL (gl (sl M 1024 (mxL (gl M 1024) r1)) 1025) r3)) 1022) / r6) t14 t19) (fun r22 => some ((), (sl (sl (sl (sl M 1024 (mxL (gl M 1024) r1)) 1025 (mnL (gl (sl M 1024 (mxL (gl M 1024) r1)) 1025) r3)) 1023 ((gl (sl (sl M 1024 (mxL (gl M 1024) r1)) 1025 (mnL (gl (sl M 1024 (mxL (gl M 1024) r1)) 1025) r3)) 1023) + ((gl (sl (sl M 1024 (mxL (gl M 1024) r1)) 1025 (mnL (gl (sl M 1024 (mxL (gl M 1024) r1)) 1025) r3)) 1022) * r22))) 1022 ((gl (sl (sl (sl M 1024 (mxL (gl M 1024) r1)) 1025 (mnL (gl (sl M 1024 (mxL (gl M 1024) r1)) 1025) r3)) 1023 ((gl (sl (sl M 1024 (mxL (gl M 1024) r1)) 1025 (mnL (gl (sl M 1024 (mxL (gl M 1024) r1)) 1025) r3)) 1023) + ((gl (sl (sl M 1024 (mxL (gl M 1024) r1)) 1025 (mnL (gl (sl M 1024 (mxL (gl M 1024) r1)) 1025) r3)) 1022) * r22))) 1022) * t14)))))))))))) else some ((), (si (sl (sl M 1024 (mxL (gl M 1024) r1)) 1025 (mnL (gl (sl M 1024 (mxL (gl M 1024) r1)) 1025) r3)) 1026 (1 : Int32)))))))) else ck (ib x1 16) (ck (nzL (al (sl (sl M 1024 (mxL (gl M 1024) r1)) 1025 (mnL (gl (sl M 1024 (mxL (gl M 1024) r1)) 1025) r3)) 1009 (Int32.toNatClampNeg x1))) (ck (ib x1 16) (if ((gl (sl (sl M 1024 (mxL (gl M 1024) r1)) 1025 (mnL (gl (sl M 1024 (mxL (gl M 1024) r1)) 1025) r3)) 1023) - (gl (sl (sl M 1024 (mxL (gl M 1024) r1)) 1025 (mnL (gl (sl M 1024 (mxL (gl M 1024) r1)) 1025) r3)) 1023) / (al (sl (sl M 1024 (mxL (gl M 1024) r1)) 1025 (mnL (gl (sl M 1024 (mxL (gl M 1024) r1)) 1025) r3)) 1009 (Int32.toNatClampNeg x1)) * (al (sl (sl M 1024 (mxL (gl M 1024) r1)) 1025 (mnL (gl (sl M 1024 (mxL (gl M 1024) r1)) 1025) r3)) 1009 (Int32.toNatClampNeg x1))) = (al (sl (sl M 1024 (mxL (gl M 1024) r1)) 1025 (mnL (gl (sl M 1024 (mxL (gl M 1024) r1)) 1025) r3)) 1010 (Int32.toNatClampNeg x1)) then F_m_putIn_78 (0 : Int32) (sl (sl M 1024 (mxL (gl M 1024) r1)) 1025 (mnL (gl (sl M 1024 (mxL (gl M 1024) r1)) 1025) r3)) else F_m_putIn_78 (1 : Int32) (sl (sl M 1024 (mxL (gl M 1024) r1)) 1025 (mnL (gl (sl M 1024 (mxL (gl M 1024) r1)) 1025) r3))))) else some ((), (sl (sl M 1024 (mxL (gl M 1024) r1)) 1025 (mnL (gl (sl M 1024 (mxL (gl M 1024) r1)) 1025) r3)))))
set_option maxRecDepth 100000 in
theorem X_m_putIn {nL : Nat} {xs : Nat → Int32} {S : Sto} {O : Sto} {d : Nat} (hd : 6 ≤ d) : ∀ (x1 : Int32) (M : Sto) (r : Unit) (M' : Sto), F_m_putIn x1 M = some (r, M') → EX nL xs 0 MI_137 d 0 [some (.ref 1000), some (.int x1), none, none, none, none, none, none, none, none] [] (S, M, O) (.inl none) (S, M', O) := by
  intro x1 M r M' hF
  unfold F_m_putIn at hF
  refine Ex_go 5 (pc' := 7) (L' := [some (.ref 1000), some (.int x1), none, none, none, none, none, none, none, none]) (st' := [.int x1, .ref 1000, .long (gl M 1024), .ref 1000]) (σ' := (S, M, O)) (rfl) ?_
  obtain ⟨r1, hx2, hF⟩ := b1_i hF
  refine Ex_call (kind := 2) (y := 92) (as := [.ref 1000, .int x1]) (rest := [.long (gl M 1024), .ref 1000]) (L0 := [some (.ref 1000), some (.int x1)]) (d' := 1) (v := some (.long r1)) (σ1 := (S, M, O)) rfl rfl mt_92 rfl rfl (by omega) (X_m_fromOf (Nat.le_refl _) _ _ _ hx2) (Ex_st (st2 := [.long r1, .long (gl M 1024), .ref 1000]) rfl ?_)
  refine Ex_blt (kind := 11) (y := 0) (as := [.long (gl M 1024), .long r1]) (rest := [.ref 1000]) (v := .long (mxL (gl M 1024) r1)) rfl rfl (by omega) ?_
  refine Ex_go 6 (pc' := 23) (L' := [some (.ref 1000), some (.int x1), none, none, none, none, none, none, none, none]) (st' := [.int x1, .ref 1000, .long (gl (sl M 1024 (mxL (gl M 1024) r1)) 1025), .ref 1000]) (σ' := (S, (sl M 1024 (mxL (gl M 1024) r1)), O)) (rfl) ?_
  obtain ⟨r3, hx4, hF⟩ := b1_i hF
  refine Ex_call (kind := 2) (y := 93) (as := [.ref 1000, .int x1]) (rest := [.long (gl (sl M 1024 (mxL (gl M 1024) r1)) 1025), .ref 1000]) (L0 := [some (.ref 1000), some (.int x1)]) (d' := 1) (v := some (.long r3)) (σ1 := (S, (sl M 1024 (mxL (gl M 1024) r1)), O)) rfl rfl mt_93 rfl rfl (by omega) (X_m_toOf (Nat.le_refl _) _ _ _ hx4) (Ex_st (st2 := [.long r3, .long (gl (sl M 1024 (mxL (gl M 1024) r1)) 1025), .ref 1000]) rfl ?_)
  refine Ex_blt (kind := 12) (y := 0) (as := [.long (gl (sl M 1024 (mxL (gl M 1024) r1)) 1025), .long r3]) (rest := [.ref 1000]) (v := .long (mnL (gl (sl M 1024 (mxL (gl M 1024) r1)) 1025) r3)) rfl rfl (by omega) ?_
  refine Ex_go 4 (pc' := if (gi (sl (sl M 1024 (mxL (gl M 1024) r1)) 1025 (mnL (gl (sl M 1024 (mxL (gl M 1024) r1)) 1025) r3)) 1026) = 0 then 40 else 39) (L' := [some (.ref 1000), some (.int x1), none, none, none, none, none, none, none, none]) (st' := []) (σ' := (S, (sl (sl M 1024 (mxL (gl M 1024) r1)) 1025 (mnL (gl (sl M 1024 (mxL (gl M 1024) r1)) 1025) r3)), O)) (rfl) ?_
  refine Ex_br (fun hc => ?_) (fun hc => ?_)
  · rw [if_pos hc] at hF
    refine Ex_go 5 (pc' := if (lg_cmp (gl (sl (sl M 1024 (mxL (gl M 1024) r1)) 1025 (mnL (gl (sl M 1024 (mxL (gl M 1024) r1)) 1025) r3)) 1022) (1000000000000 : Int64)) ≤ 0 then 82 else 51) (L' := [some (.ref 1000), some (.int x1), none, none, none, none, none, none, none, none]) (st' := []) (σ' := (S, (sl (sl M 1024 (mxL (gl M 1024) r1)) 1025 (mnL (gl (sl M 1024 (mxL (gl M 1024) r1)) 1025) r3)), O)) (rfl) ?_
    refine Ex_brI lc_le (fun hc => ?_) (fun hc => ?_)
    · rw [if_pos hc] at hF
      refine Ex_go 5 (pc' := 91) (L' := [some (.ref 1000), some (.int x1), none, none, none, none, none, none, none, none]) (st' := [.int x1, .ref 1009, .long (gl (sl (sl M 1024 (mxL (gl M 1024) r1)) 1025 (mnL (gl (sl M 1024 (mxL (gl M 1024) r1)) 1025) r3)) 1022)]) (σ' := (S, (sl (sl M 1024 (mxL (gl M 1024) r1)) 1025 (mnL (gl (sl M 1024 (mxL (gl M 1024) r1)) 1025) r3)), O)) (rfl) ?_
      obtain ⟨hc5, hF⟩ := ck_i hF
      refine Ex_chk (b := ib x1 16) (pc' := 92) (L' := [some (.ref 1000), some (.int x1), none, none, none, none, none, none, none, none]) (st' := [.long (al (sl (sl M 1024 (mxL (gl M 1024) r1)) 1025 (mnL (gl (sl M 1024 (mxL (gl M 1024) r1)) 1025) r3)) 1009 (Int32.toNatClampNeg x1)), .long (gl (sl (sl M 1024 (mxL (gl M 1024) r1)) 1025 (mnL (gl (sl M 1024 (mxL (gl M 1024) r1)) 1025) r3)) 1022)]) (σ' := (S, (sl (sl M 1024 (mxL (gl M 1024) r1)) 1025 (mnL (gl (sl M 1024 (mxL (gl M 1024) r1)) 1025) r3)), O)) rfl hc5 ?_
      obtain ⟨r6, hx7, hF⟩ := b1_i hF
      refine Ex_call (kind := 0) (y := 135) (as := [.long (gl (sl (sl M 1024 (mxL (gl M 1024) r1)) 1025 (mnL (gl (sl M 1024 (mxL (gl M 1024) r1)) 1025) r3)) 1022), .long (al (sl (sl M 1024 (mxL (gl M 1024) r1)) 1025 (mnL (gl (sl M 1024 (mxL (gl M 1024) r1)) 1025) r3)) 1009 (Int32.toNatClampNeg x1))]) (rest := []) (L0 := [some (.long (gl (sl (sl M 1024 (mxL (gl M 1024) r1)) 1025 (mnL (gl (sl M 1024 (mxL (gl M 1024) r1)) 1025) r3)) 1022)), none, some (.long (al (sl (sl M 1024 (mxL (gl M 1024) r1)) 1025 (mnL (gl (sl M 1024 (mxL (gl M 1024) r1)) 1025) r3)) 1009 (Int32.toNatClampNeg x1))), none, none, none, none, none, none, none]) (d' := 1) (v := some (.long r6)) (σ1 := (S, (sl (sl M 1024 (mxL (gl M 1024) r1)) 1025 (mnL (gl (sl M 1024 (mxL (gl M 1024) r1)) 1025) r3)), O)) rfl rfl mt_135 rfl rfl (by omega) (X_m_common (Nat.le_refl _) _ _ _ hx7) (Ex_st (st2 := [.long r6]) rfl ?_)
      refine Ex_go 4 (pc' := 101) (L' := [some (.ref 1000), some (.int x1), some (.long r6), none, none, none, none, none, none, none]) (st' := [.int x1, .ref 1010]) (σ' := (S, (sl (sl M 1024 (mxL (gl M 1024) r1)) 1025 (mnL (gl (sl M 1024 (mxL (gl M 1024) r1)) 1025) r3)), O)) (rfl) ?_
      obtain ⟨hc8, hF⟩ := ck_i hF
      refine Ex_chk (b := ib x1 16) (pc' := 102) (L' := [some (.ref 1000), some (.int x1), some (.long r6), none, none, none, none, none, none, none]) (st' := [.long (al (sl (sl M 1024 (mxL (gl M 1024) r1)) 1025 (mnL (gl (sl M 1024 (mxL (gl M 1024) r1)) 1025) r3)) 1010 (Int32.toNatClampNeg x1))]) (σ' := (S, (sl (sl M 1024 (mxL (gl M 1024) r1)) 1025 (mnL (gl (sl M 1024 (mxL (gl M 1024) r1)) 1025) r3)), O)) rfl hc8 ?_
      obtain ⟨t9, ht10, hF⟩ := nm_i hF
      refine Ex_go 4 (pc' := 109) (L' := [some (.ref 1000), some (.int x1), some (.long r6), none, some (.long t9), none, none, none, none, none]) (st' := []) (σ' := (S, (sl (sl M 1024 (mxL (gl M 1024) r1)) 1025 (mnL (gl (sl M 1024 (mxL (gl M 1024) r1)) 1025) r3)), O)) (by rw [ht10]; rfl) ?_
      refine Ex_go 2 (pc' := 112) (L' := [some (.ref 1000), some (.int x1), some (.long r6), none, some (.long t9), none, none, none, none, none]) (st' := [.long r6, .long t9]) (σ' := (S, (sl (sl M 1024 (mxL (gl M 1024) r1)) 1025 (mnL (gl (sl M 1024 (mxL (gl M 1024) r1)) 1025) r3)), O)) (rfl) ?_
      obtain ⟨hc11, hF⟩ := ck_i hF
      refine Ex_chk (b := nzL r6) (pc' := 113) (L' := [some (.ref 1000), some (.int x1), some (.long r6), none, some (.long t9), none, none, none, none, none]) (st' := [.long (t9 - t9 / r6 * r6)]) (σ' := (S, (sl (sl M 1024 (mxL (gl M 1024) r1)) 1025 (mnL (gl (sl M 1024 (mxL (gl M 1024) r1)) 1025) r3)), O)) rfl hc11 ?_
      refine Ex_go 3 (pc' := if (lg_cmp (t9 - t9 / r6 * r6) (0 : Int64)) = 0 then 124 else 118) (L' := [some (.ref 1000), some (.int x1), some (.long r6), none, some (.long t9), none, none, none, none, none]) (st' := []) (σ' := (S, (sl (sl M 1024 (mxL (gl M 1024) r1)) 1025 (mnL (gl (sl M 1024 (mxL (gl M 1024) r1)) 1025) r3)), O)) (rfl) ?_
      refine Ex_brI lc_eq (fun hc => ?_) (fun hc => ?_)
      · rw [if_pos hc] at hF
        refine Ex_go 3 (pc' := 129) (L' := [some (.ref 1000), some (.int x1), some (.long r6), none, some (.long t9), none, none, none, none, none]) (st' := [.int x1, .ref 1009]) (σ' := (S, (sl (sl M 1024 (mxL (gl M 1024) r1)) 1025 (mnL (gl (sl M 1024 (mxL (gl M 1024) r1)) 1025) r3)), O)) (rfl) ?_
        obtain ⟨hc12, hF⟩ := ck_i hF
        refine Ex_chk (b := ib x1 16) (pc' := 130) (L' := [some (.ref 1000), some (.int x1), some (.long r6), none, some (.long t9), none, none, none, none, none]) (st' := [.long (al (sl (sl M 1024 (mxL (gl M 1024) r1)) 1025 (mnL (gl (sl M 1024 (mxL (gl M 1024) r1)) 1025) r3)) 1009 (Int32.toNatClampNeg x1))]) (σ' := (S, (sl (sl M 1024 (mxL (gl M 1024) r1)) 1025 (mnL (gl (sl M 1024 (mxL (gl M 1024) r1)) 1025) r3)), O)) rfl hc12 ?_
        refine Ex_go 1 (pc' := 131) (L' := [some (.ref 1000), some (.int x1), some (.long r6), none, some (.long t9), none, none, none, none, none]) (st' := [.long r6, .long (al (sl (sl M 1024 (mxL (gl M 1024) r1)) 1025 (mnL (gl (sl M 1024 (mxL (gl M 1024) r1)) 1025) r3)) 1009 (Int32.toNatClampNeg x1))]) (σ' := (S, (sl (sl M 1024 (mxL (gl M 1024) r1)) 1025 (mnL (gl (sl M 1024 (mxL (gl M 1024) r1)) 1025) r3)), O)) (rfl) ?_
        obtain ⟨hc13, hF⟩ := ck_i hF
        refine Ex_chk (b := nzL r6) (pc' := 132) (L' := [some (.ref 1000), some (.int x1), some (.long r6), none, some (.long t9), none, none, none, none, none]) (st' := [.long ((al (sl (sl M 1024 (mxL (gl M 1024) r1)) 1025 (mnL (gl (sl M 1024 (mxL (gl M 1024) r1)) 1025) r3)) 1009 (Int32.toNatClampNeg x1)) / r6)]) (σ' := (S, (sl (sl M 1024 (mxL (gl M 1024) r1)) 1025 (mnL (gl (sl M 1024 (mxL (gl M 1024) r1)) 1025) r3)), O)) rfl hc13 ?_
        obtain ⟨t14, ht15, hF⟩ := nm_i hF
        refine Ex_go 1 (pc' := 134) (L' := [some (.ref 1000), some (.int x1), some (.long r6), none, some (.long t9), none, some (.long t14), none, none, none]) (st' := []) (σ' := (S, (sl (sl M 1024 (mxL (gl M 1024) r1)) 1025 (mnL (gl (sl M 1024 (mxL (gl M 1024) r1)) 1025) r3)), O)) (by rw [ht15]; rfl) ?_
        refine Ex_go 2 (pc' := 137) (L' := [some (.ref 1000), some (.int x1), some (.long r6), none, some (.long t9), none, some (.long t14), none, none, none]) (st' := [.long r6, .long t9]) (σ' := (S, (sl (sl M 1024 (mxL (gl M 1024) r1)) 1025 (mnL (gl (sl M 1024 (mxL (gl M 1024) r1)) 1025) r3)), O)) (rfl) ?_
        obtain ⟨hc16, hF⟩ := ck_i hF
        refine Ex_chk (b := nzL r6) (pc' := 138) (L' := [some (.ref 1000), some (.int x1), some (.long r6), none, some (.long t9), none, some (.long t14), none, none, none]) (st' := [.long (t9 / r6)]) (σ' := (S, (sl (sl M 1024 (mxL (gl M 1024) r1)) 1025 (mnL (gl (sl M 1024 (mxL (gl M 1024) r1)) 1025) r3)), O)) rfl hc16 ?_
        refine Ex_go 1 (pc' := 140) (L' := [some (.ref 1000), some (.int x1), some (.long r6), none, some (.long t9), none, some (.long t14), none, none, none]) (st' := [.long t14, .long (t9 / r6)]) (σ' := (S, (sl (sl M 1024 (mxL (gl M 1024) r1)) 1025 (mnL (gl (sl M 1024 (mxL (gl M 1024) r1)) 1025) r3)), O)) (rfl) ?_
        obtain ⟨hc17, hF⟩ := ck_i hF
        refine Ex_chk (b := nzL t14) (pc' := 141) (L' := [some (.ref 1000), some (.int x1), some (.long r6), none, some (.long t9), none, some (.long t14), none, none, none]) (st' := [.long ((t9 / r6) - (t9 / r6) / t14 * t14)]) (σ' := (S, (sl (sl M 1024 (mxL (gl M 1024) r1)) 1025 (mnL (gl (sl M 1024 (mxL (gl M 1024) r1)) 1025) r3)), O)) rfl hc17 ?_
        refine Ex_go 3 (pc' := 146) (L' := [some (.ref 1000), some (.int x1), some (.long r6), none, some (.long t9), none, some (.long t14), none, none, none]) (st' := [.long t14, .long (((t9 / r6) - (t9 / r6) / t14 * t14) + t14)]) (σ' := (S, (sl (sl M 1024 (mxL (gl M 1024) r1)) 1025 (mnL (gl (sl M 1024 (mxL (gl M 1024) r1)) 1025) r3)), O)) (rfl) ?_
        obtain ⟨hc18, hF⟩ := ck_i hF
        refine Ex_chk (b := nzL t14) (pc' := 147) (L' := [some (.ref 1000), some (.int x1), some (.long r6), none, some (.long t9), none, some (.long t14), none, none, none]) (st' := [.long ((((t9 / r6) - (t9 / r6) / t14 * t14) + t14) - (((t9 / r6) - (t9 / r6) / t14 * t14) + t14) / t14 * t14)]) (σ' := (S, (sl (sl M 1024 (mxL (gl M 1024) r1)) 1025 (mnL (gl (sl M 1024 (mxL (gl M 1024) r1)) 1025) r3)), O)) rfl hc18 ?_
        obtain ⟨t19, ht20, hF⟩ := nm_i hF
        refine Ex_go 1 (pc' := 149) (L' := [some (.ref 1000), some (.int x1), some (.long r6), none, some (.long t9), none, some (.long t14), none, some (.long t19), none]) (st' := []) (σ' := (S, (sl (sl M 1024 (mxL (gl M 1024) r1)) 1025 (mnL (gl (sl M 1024 (mxL (gl M 1024) r1)) 1025) r3)), O)) (by rw [ht20]; rfl) ?_
        refine Ex_go 8 (pc' := 163) (L' := [some (.ref 1000), some (.int x1), some (.long r6), none, some (.long t9), none, some (.long t14), none, some (.long t19), none]) (st' := [.long r6, .long (gl (sl (sl M 1024 (mxL (gl M 1024) r1)) 1025 (mnL (gl (sl M 1024 (mxL (gl M 1024) r1)) 1025) r3)) 1022), .long (gl (sl (sl M 1024 (mxL (gl M 1024) r1)) 1025 (mnL (gl (sl M 1024 (mxL (gl M 1024) r1)) 1025) r3)) 1022), .long (gl (sl (sl M 1024 (mxL (gl M 1024) r1)) 1025 (mnL (gl (sl M 1024 (mxL (gl M 1024) r1)) 1025) r3)) 1023), .ref 1000]) (σ' := (S, (sl (sl M 1024 (mxL (gl M 1024) r1)) 1025 (mnL (gl (sl M 1024 (mxL (gl M 1024) r1)) 1025) r3)), O)) (rfl) ?_
        obtain ⟨hc21, hF⟩ := ck_i hF
        refine Ex_chk (b := nzL r6) (pc' := 164) (L' := [some (.ref 1000), some (.int x1), some (.long r6), none, some (.long t9), none, some (.long t14), none, some (.long t19), none]) (st' := [.long ((gl (sl (sl M 1024 (mxL (gl M 1024) r1)) 1025 (mnL (gl (sl M 1024 (mxL (gl M 1024) r1)) 1025) r3)) 1022) / r6), .long (gl (sl (sl M 1024 (mxL (gl M 1024) r1)) 1025 (mnL (gl (sl M 1024 (mxL (gl M 1024) r1)) 1025) r3)) 1022), .long (gl (sl (sl M 1024 (mxL (gl M 1024) r1)) 1025 (mnL (gl (sl M 1024 (mxL (gl M 1024) r1)) 1025) r3)) 1023), .ref 1000]) (σ' := (S, (sl (sl M 1024 (mxL (gl M 1024) r1)) 1025 (mnL (gl (sl M 1024 (mxL (gl M 1024) r1)) 1025) r3)), O)) rfl hc21 ?_
        refine Ex_go 2 (pc' := 168) (L' := [some (.ref 1000), some (.int x1), some (.long r6), none, some (.long t9), none, some (.long t14), none, some (.long t19), none]) (st' := [.long t19, .long t14, .long ((gl (sl (sl M 1024 (mxL (gl M 1024) r1)) 1025 (mnL (gl (sl M 1024 (mxL (gl M 1024) r1)) 1025) r3)) 1022) / r6), .long (gl (sl (sl M 1024 (mxL (gl M 1024) r1)) 1025 (mnL (gl (sl M 1024 (mxL (gl M 1024) r1)) 1025) r3)) 1022), .long (gl (sl (sl M 1024 (mxL (gl M 1024) r1)) 1025 (mnL (gl (sl M 1024 (mxL (gl M 1024) r1)) 1025) r3)) 1023), .ref 1000]) (σ' := (S, (sl (sl M 1024 (mxL (gl M 1024) r1)) 1025 (mnL (gl (sl M 1024 (mxL (gl M 1024) r1)) 1025) r3)), O)) (rfl) ?_
        obtain ⟨r22, hx23, hF⟩ := b1_i hF
        refine Ex_call (kind := 0) (y := 136) (as := [.long ((gl (sl (sl M 1024 (mxL (gl M 1024) r1)) 1025 (mnL (gl (sl M 1024 (mxL (gl M 1024) r1)) 1025) r3)) 1022) / r6), .long t14, .long t19]) (rest := [.long (gl (sl (sl M 1024 (mxL (gl M 1024) r1)) 1025 (mnL (gl (sl M 1024 (mxL (gl M 1024) r1)) 1025) r3)) 1022), .long (gl (sl (sl M 1024 (mxL (gl M 1024) r1)) 1025 (mnL (gl (sl M 1024 (mxL (gl M 1024) r1)) 1025) r3)) 1023), .ref 1000]) (L0 := [some (.long ((gl (sl (sl M 1024 (mxL (gl M 1024) r1)) 1025 (mnL (gl (sl M 1024 (mxL (gl M 1024) r1)) 1025) r3)) 1022) / r6)), none, some (.long t14), none, some (.long t19), none, none, none, none, none, none, none, none, none, none, none, none, none]) (d' := 1) (v := some (.long r22)) (σ1 := (S, (sl (sl M 1024 (mxL (gl M 1024) r1)) 1025 (mnL (gl (sl M 1024 (mxL (gl M 1024) r1)) 1025) r3)), O)) rfl rfl mt_136 rfl rfl (by omega) (X_m_timesFor (Nat.le_refl _) _ _ _ _ hx23) (Ex_st (st2 := [.long r22, .long (gl (sl (sl M 1024 (mxL (gl M 1024) r1)) 1025 (mnL (gl (sl M 1024 (mxL (gl M 1024) r1)) 1025) r3)) 1022), .long (gl (sl (sl M 1024 (mxL (gl M 1024) r1)) 1025 (mnL (gl (sl M 1024 (mxL (gl M 1024) r1)) 1025) r3)) 1023), .ref 1000]) rfl ?_)
        refine Ex_go 9 (pc' := 187) (L' := [some (.ref 1000), some (.int x1), some (.long r6), none, some (.long t9), none, some (.long t14), none, some (.long t19), none]) (st' := []) (σ' := (S, (sl (sl (sl (sl M 1024 (mxL (gl M 1024) r1)) 1025 (mnL (gl (sl M 1024 (mxL (gl M 1024) r1)) 1025) r3)) 1023 ((gl (sl (sl M 1024 (mxL (gl M 1024) r1)) 1025 (mnL (gl (sl M 1024 (mxL (gl M 1024) r1)) 1025) r3)) 1023) + ((gl (sl (sl M 1024 (mxL (gl M 1024) r1)) 1025 (mnL (gl (sl M 1024 (mxL (gl M 1024) r1)) 1025) r3)) 1022) * r22))) 1022 ((gl (sl (sl (sl M 1024 (mxL (gl M 1024) r1)) 1025 (mnL (gl (sl M 1024 (mxL (gl M 1024) r1)) 1025) r3)) 1023 ((gl (sl (sl M 1024 (mxL (gl M 1024) r1)) 1025 (mnL (gl (sl M 1024 (mxL (gl M 1024) r1)) 1025) r3)) 1023) + ((gl (sl (sl M 1024 (mxL (gl M 1024) r1)) 1025 (mnL (gl (sl M 1024 (mxL (gl M 1024) r1)) 1025) r3)) 1022) * r22))) 1022) * t14)), O)) (rfl) ?_
        cases hF
        exact Ex_fin rfl
      · rw [if_neg hc] at hF
        refine Ex_go 2 (pc' := 120) (L' := [some (.ref 1000), some (.int x1), some (.long r6), none, some (.long t9), none, none, none, none, none]) (st' := [.int (1 : Int32), .ref 1000]) (σ' := (S, (sl (sl M 1024 (mxL (gl M 1024) r1)) 1025 (mnL (gl (sl M 1024 (mxL (gl M 1024) r1)) 1025) r3)), O)) (rfl) ?_
        refine Ex_chk (b := b01 (1 : Int32)) (pc' := 123) (L' := [some (.ref 1000), some (.int x1), some (.long r6), none, some (.long t9), none, none, none, none, none]) (st' := []) (σ' := (S, (si (sl (sl M 1024 (mxL (gl M 1024) r1)) 1025 (mnL (gl (sl M 1024 (mxL (gl M 1024) r1)) 1025) r3)) 1026 (1 : Int32)), O)) rfl (by decide) ?_
        cases hF
        exact Ex_fin rfl
    · rw [if_neg hc] at hF
      refine Ex_go 6 (pc' := 61) (L' := [some (.ref 1000), some (.int x1), none, none, none, none, none, none, none, none]) (st' := [.int x1, .ref 1009, .long (gl (sl (sl M 1024 (mxL (gl M 1024) r1)) 1025 (mnL (gl (sl M 1024 (mxL (gl M 1024) r1)) 1025) r3)) 1023), .ref 1000]) (σ' := (S, (sl (sl M 1024 (mxL (gl M 1024) r1)) 1025 (mnL (gl (sl M 1024 (mxL (gl M 1024) r1)) 1025) r3)), O)) (rfl) ?_
      obtain ⟨hc24, hF⟩ := ck_i hF
      refine Ex_chk (b := ib x1 16) (pc' := 62) (L' := [some (.ref 1000), some (.int x1), none, none, none, none, none, none, none, none]) (st' := [.long (al (sl (sl M 1024 (mxL (gl M 1024) r1)) 1025 (mnL (gl (sl M 1024 (mxL (gl M 1024) r1)) 1025) r3)) 1009 (Int32.toNatClampNeg x1)), .long (gl (sl (sl M 1024 (mxL (gl M 1024) r1)) 1025 (mnL (gl (sl M 1024 (mxL (gl M 1024) r1)) 1025) r3)) 1023), .ref 1000]) (σ' := (S, (sl (sl M 1024 (mxL (gl M 1024) r1)) 1025 (mnL (gl (sl M 1024 (mxL (gl M 1024) r1)) 1025) r3)), O)) rfl hc24 ?_
      obtain ⟨hc25, hF⟩ := ck_i hF
      refine Ex_chk (b := nzL (al (sl (sl M 1024 (mxL (gl M 1024) r1)) 1025 (mnL (gl (sl M 1024 (mxL (gl M 1024) r1)) 1025) r3)) 1009 (Int32.toNatClampNeg x1))) (pc' := 63) (L' := [some (.ref 1000), some (.int x1), none, none, none, none, none, none, none, none]) (st' := [.long ((gl (sl (sl M 1024 (mxL (gl M 1024) r1)) 1025 (mnL (gl (sl M 1024 (mxL (gl M 1024) r1)) 1025) r3)) 1023) - (gl (sl (sl M 1024 (mxL (gl M 1024) r1)) 1025 (mnL (gl (sl M 1024 (mxL (gl M 1024) r1)) 1025) r3)) 1023) / (al (sl (sl M 1024 (mxL (gl M 1024) r1)) 1025 (mnL (gl (sl M 1024 (mxL (gl M 1024) r1)) 1025) r3)) 1009 (Int32.toNatClampNeg x1)) * (al (sl (sl M 1024 (mxL (gl M 1024) r1)) 1025 (mnL (gl (sl M 1024 (mxL (gl M 1024) r1)) 1025) r3)) 1009 (Int32.toNatClampNeg x1))), .ref 1000]) (σ' := (S, (sl (sl M 1024 (mxL (gl M 1024) r1)) 1025 (mnL (gl (sl M 1024 (mxL (gl M 1024) r1)) 1025) r3)), O)) rfl hc25 ?_
      refine Ex_go 3 (pc' := 68) (L' := [some (.ref 1000), some (.int x1), none, none, none, none, none, none, none, none]) (st' := [.int x1, .ref 1010, .long ((gl (sl (sl M 1024 (mxL (gl M 1024) r1)) 1025 (mnL (gl (sl M 1024 (mxL (gl M 1024) r1)) 1025) r3)) 1023) - (gl (sl (sl M 1024 (mxL (gl M 1024) r1)) 1025 (mnL (gl (sl M 1024 (mxL (gl M 1024) r1)) 1025) r3)) 1023) / (al (sl (sl M 1024 (mxL (gl M 1024) r1)) 1025 (mnL (gl (sl M 1024 (mxL (gl M 1024) r1)) 1025) r3)) 1009 (Int32.toNatClampNeg x1)) * (al (sl (sl M 1024 (mxL (gl M 1024) r1)) 1025 (mnL (gl (sl M 1024 (mxL (gl M 1024) r1)) 1025) r3)) 1009 (Int32.toNatClampNeg x1))), .ref 1000]) (σ' := (S, (sl (sl M 1024 (mxL (gl M 1024) r1)) 1025 (mnL (gl (sl M 1024 (mxL (gl M 1024) r1)) 1025) r3)), O)) (rfl) ?_
      obtain ⟨hc26, hF⟩ := ck_i hF
      refine Ex_chk (b := ib x1 16) (pc' := 69) (L' := [some (.ref 1000), some (.int x1), none, none, none, none, none, none, none, none]) (st' := [.long (al (sl (sl M 1024 (mxL (gl M 1024) r1)) 1025 (mnL (gl (sl M 1024 (mxL (gl M 1024) r1)) 1025) r3)) 1010 (Int32.toNatClampNeg x1)), .long ((gl (sl (sl M 1024 (mxL (gl M 1024) r1)) 1025 (mnL (gl (sl M 1024 (mxL (gl M 1024) r1)) 1025) r3)) 1023) - (gl (sl (sl M 1024 (mxL (gl M 1024) r1)) 1025 (mnL (gl (sl M 1024 (mxL (gl M 1024) r1)) 1025) r3)) 1023) / (al (sl (sl M 1024 (mxL (gl M 1024) r1)) 1025 (mnL (gl (sl M 1024 (mxL (gl M 1024) r1)) 1025) r3)) 1009 (Int32.toNatClampNeg x1)) * (al (sl (sl M 1024 (mxL (gl M 1024) r1)) 1025 (mnL (gl (sl M 1024 (mxL (gl M 1024) r1)) 1025) r3)) 1009 (Int32.toNatClampNeg x1))), .ref 1000]) (σ' := (S, (sl (sl M 1024 (mxL (gl M 1024) r1)) 1025 (mnL (gl (sl M 1024 (mxL (gl M 1024) r1)) 1025) r3)), O)) rfl hc26 ?_
      refine Ex_go 2 (pc' := if (lg_cmp ((gl (sl (sl M 1024 (mxL (gl M 1024) r1)) 1025 (mnL (gl (sl M 1024 (mxL (gl M 1024) r1)) 1025) r3)) 1023) - (gl (sl (sl M 1024 (mxL (gl M 1024) r1)) 1025 (mnL (gl (sl M 1024 (mxL (gl M 1024) r1)) 1025) r3)) 1023) / (al (sl (sl M 1024 (mxL (gl M 1024) r1)) 1025 (mnL (gl (sl M 1024 (mxL (gl M 1024) r1)) 1025) r3)) 1009 (Int32.toNatClampNeg x1)) * (al (sl (sl M 1024 (mxL (gl M 1024) r1)) 1025 (mnL (gl (sl M 1024 (mxL (gl M 1024) r1)) 1025) r3)) 1009 (Int32.toNatClampNeg x1))) (al (sl (sl M 1024 (mxL (gl M 1024) r1)) 1025 (mnL (gl (sl M 1024 (mxL (gl M 1024) r1)) 1025) r3)) 1010 (Int32.toNatClampNeg x1))) = 0 then 77 else 73) (L' := [some (.ref 1000), some (.int x1), none, none, none, none, none, none, none, none]) (st' := [.ref 1000]) (σ' := (S, (sl (sl M 1024 (mxL (gl M 1024) r1)) 1025 (mnL (gl (sl M 1024 (mxL (gl M 1024) r1)) 1025) r3)), O)) (rfl) ?_
      refine Ex_brI lc_eq (fun hc => ?_) (fun hc => ?_)
      · rw [if_pos hc] at hF
        refine Ex_go 1 (pc' := 78) (L' := [some (.ref 1000), some (.int x1), none, none, none, none, none, none, none, none]) (st' := [.int (0 : Int32), .ref 1000]) (σ' := (S, (sl (sl M 1024 (mxL (gl M 1024) r1)) 1025 (mnL (gl (sl M 1024 (mxL (gl M 1024) r1)) 1025) r3)), O)) (rfl) ?_
        exact Ex_mono (L := [none, none, none, none, none, none, none, none, none, none]) (Le_n (Le_n (Le_n (Le_n (Le_n (Le_n (Le_n (Le_n (Le_n (Le_n (Le_0))))))))))) (X_m_putIn_78 hd _ _ _ _ hF) (Nat.le_refl _) (by omega)
      · rw [if_neg hc] at hF
        refine Ex_go 2 (pc' := 78) (L' := [some (.ref 1000), some (.int x1), none, none, none, none, none, none, none, none]) (st' := [.int (1 : Int32), .ref 1000]) (σ' := (S, (sl (sl M 1024 (mxL (gl M 1024) r1)) 1025 (mnL (gl (sl M 1024 (mxL (gl M 1024) r1)) 1025) r3)), O)) (rfl) ?_
        exact Ex_mono (L := [none, none, none, none, none, none, none, none, none, none]) (Le_n (Le_n (Le_n (Le_n (Le_n (Le_n (Le_n (Le_n (Le_n (Le_n (Le_0))))))))))) (X_m_putIn_78 hd _ _ _ _ hF) (Nat.le_refl _) (by omega)
  · rw [if_neg hc] at hF
    cases hF
    exact Ex_fin rfl
def F_m_tellOne_57 (k33 : Int32 → Int32 → Sto → Option (Unit × Sto)) (x1 : Int32) (x2 : Int32) (M : Sto) : Option (Unit × Sto) := k33 x1 (x2 + (1 : Int32)) M
set_option maxRecDepth 100000 in
theorem X_m_tellOne_57 {nL : Nat} {xs : Nat → Int32} {S : Sto} {O : Sto} {d : Nat} (hd : 7 ≤ d) {k33 : Int32 → Int32 → Sto → Option (Unit × Sto)} (hk33 : ∀ (x1 : Int32) (x2 : Int32) (M : Sto) (r : Unit) (M' : Sto), k33 x1 x2 M = some (r, M') → EX nL xs 0 MI_138 d 33 [some (.ref 1000), some (.int x1), some (.int x2)] [] (S, M, O) (.inl none) (S, M', O)) : ∀ (x1 : Int32) (x2 : Int32) (M : Sto) (r : Unit) (M' : Sto), F_m_tellOne_57 k33 x1 x2 M = some (r, M') → EX nL xs 0 MI_138 d 57 [some (.ref 1000), some (.int x1), some (.int x2)] [] (S, M, O) (.inl none) (S, M', O) := by
  intro x1 x2 M r M' hF
  unfold F_m_tellOne_57 at hF
  refine Ex_go 2 (pc' := 33) (L' := [some (.ref 1000), some (.int x1), some (.int (x2 + (1 : Int32)))]) (st' := []) (σ' := (S, M, O)) (rfl) ?_
  exact Ex_mono (L := [some (.ref 1000), some (.int x1), some (.int (x2 + (1 : Int32)))]) (Le_s (Le_s (Le_s (Le_0)))) (hk33 _ _ _ _ _ hF) (Nat.le_refl _) (by omega)
def F_m_tellOne_33 : Nat → Int32 → Int32 → Sto → Option (Unit × Sto)
  | 0, _, _, _ => none
  | n + 1, x1, x2, M => if (ai M 1003 (Int32.toNatClampNeg (0 : Int32))) ≤ x2 then some ((), M) else if ((x1 >>> (x2 &&& 31)) &&& (1 : Int32)) = (1 : Int32) then b2 (F_m_putIn x2 M) (fun r1 M3 => F_m_tellOne_57 (F_m_tellOne_33 n) x1 x2 M3) else F_m_tellOne_57 (F_m_tellOne_33 n) x1 x2 M
set_option maxRecDepth 100000 in
theorem X_m_tellOne_33 {nL : Nat} {xs : Nat → Int32} {S : Sto} {O : Sto} {d : Nat} (hd : 7 ≤ d) : ∀ n : Nat, ∀ (x1 : Int32) (x2 : Int32) (M : Sto) (r : Unit) (M' : Sto), F_m_tellOne_33 n x1 x2 M = some (r, M') → EX nL xs 0 MI_138 d 33 [some (.ref 1000), some (.int x1), some (.int x2)] [] (S, M, O) (.inl none) (S, M', O) := by
  intro n
  induction n with
  | zero => intro x1 x2 M r M' hF; cases hF
  | succ n ih =>
  intro x1 x2 M r M' hF
  unfold F_m_tellOne_33 at hF
  refine Ex_go 4 (pc' := 39) (L' := [some (.ref 1000), some (.int x1), some (.int x2)]) (st' := [.int (0 : Int32), .ref 1003, .int x2]) (σ' := (S, M, O)) (rfl) ?_
  refine Ex_chk (b := ib (0 : Int32) 6) (pc' := 40) (L' := [some (.ref 1000), some (.int x1), some (.int x2)]) (st' := [.int (ai M 1003 (Int32.toNatClampNeg (0 : Int32))), .int x2]) (σ' := (S, M, O)) rfl (by decide) ?_
  refine Ex_go 1 (pc' := if (ai M 1003 (Int32.toNatClampNeg (0 : Int32))) ≤ x2 then 63 else 43) (L' := [some (.ref 1000), some (.int x1), some (.int x2)]) (st' := []) (σ' := (S, M, O)) (rfl) ?_
  refine Ex_br (fun hc => ?_) (fun hc => ?_)
  · rw [if_pos hc] at hF
    cases hF
    exact Ex_fin rfl
  · rw [if_neg hc] at hF
    refine Ex_go 7 (pc' := if ¬ ((x1 >>> (x2 &&& 31)) &&& (1 : Int32)) = (1 : Int32) then 57 else 52) (L' := [some (.ref 1000), some (.int x1), some (.int x2)]) (st' := []) (σ' := (S, M, O)) (rfl) ?_
    refine Ex_brN (fun hc => ?_) (fun hc => ?_)
    · rw [if_pos hc] at hF
      refine Ex_go 2 (pc' := 54) (L' := [some (.ref 1000), some (.int x1), some (.int x2)]) (st' := [.int x2, .ref 1000]) (σ' := (S, M, O)) (rfl) ?_
      obtain ⟨r1, M3, hx2, hF⟩ := b2_i hF
      refine Ex_call (kind := 2) (y := 137) (as := [.ref 1000, .int x2]) (rest := []) (L0 := [some (.ref 1000), some (.int x2), none, none, none, none, none, none, none, none]) (d' := 6) (v := none) (σ1 := (S, M3, O)) rfl rfl mt_137 rfl rfl (by omega) (X_m_putIn (Nat.le_refl _) _ _ _ _ hx2) (Ex_st (st2 := []) rfl ?_)
      exact Ex_mono (L := [some (.ref 1000), some (.int x1), some (.int x2)]) (Le_s (Le_s (Le_s (Le_0)))) (X_m_tellOne_57 hd ih _ _ _ _ _ hF) (Nat.le_refl _) (by omega)
    · rw [if_neg hc] at hF
      exact Ex_mono (L := [some (.ref 1000), some (.int x1), some (.int x2)]) (Le_s (Le_s (Le_s (Le_0)))) (X_m_tellOne_57 hd ih _ _ _ _ _ hF) (Nat.le_refl _) (by omega)
def F_m_tellOne (x1 : Int32) (M : Sto) : Option (Unit × Sto) := F_m_tellOne_33 FU x1 (0 : Int32) (si (sl (sl (sl (sl M 1022 (1 : Int64)) 1023 (0 : Int64)) 1024 (gl (sl (sl M 1022 (1 : Int64)) 1023 (0 : Int64)) 1013)) 1025 (gl (sl (sl (sl M 1022 (1 : Int64)) 1023 (0 : Int64)) 1024 (gl (sl (sl M 1022 (1 : Int64)) 1023 (0 : Int64)) 1013)) 1014)) 1026 (0 : Int32))
set_option maxRecDepth 100000 in
theorem X_m_tellOne {nL : Nat} {xs : Nat → Int32} {S : Sto} {O : Sto} {d : Nat} (hd : 7 ≤ d) : ∀ (x1 : Int32) (M : Sto) (r : Unit) (M' : Sto), F_m_tellOne x1 M = some (r, M') → EX nL xs 0 MI_138 d 0 [some (.ref 1000), some (.int x1), none] [] (S, M, O) (.inl none) (S, M', O) := by
  intro x1 M r M' hF
  unfold F_m_tellOne at hF
  refine Ex_go 10 (pc' := 18) (L' := [some (.ref 1000), some (.int x1), none]) (st' := []) (σ' := (S, (sl (sl (sl M 1022 (1 : Int64)) 1023 (0 : Int64)) 1024 (gl (sl (sl M 1022 (1 : Int64)) 1023 (0 : Int64)) 1013)), O)) (rfl) ?_
  refine Ex_go 6 (pc' := 28) (L' := [some (.ref 1000), some (.int x1), none]) (st' := [.int (0 : Int32), .ref 1000]) (σ' := (S, (sl (sl (sl (sl M 1022 (1 : Int64)) 1023 (0 : Int64)) 1024 (gl (sl (sl M 1022 (1 : Int64)) 1023 (0 : Int64)) 1013)) 1025 (gl (sl (sl (sl M 1022 (1 : Int64)) 1023 (0 : Int64)) 1024 (gl (sl (sl M 1022 (1 : Int64)) 1023 (0 : Int64)) 1013)) 1014)), O)) (rfl) ?_
  refine Ex_chk (b := b01 (0 : Int32)) (pc' := 31) (L' := [some (.ref 1000), some (.int x1), none]) (st' := []) (σ' := (S, (si (sl (sl (sl (sl M 1022 (1 : Int64)) 1023 (0 : Int64)) 1024 (gl (sl (sl M 1022 (1 : Int64)) 1023 (0 : Int64)) 1013)) 1025 (gl (sl (sl (sl M 1022 (1 : Int64)) 1023 (0 : Int64)) 1024 (gl (sl (sl M 1022 (1 : Int64)) 1023 (0 : Int64)) 1013)) 1014)) 1026 (0 : Int32)), O)) rfl (by decide) ?_
  refine Ex_go 2 (pc' := 33) (L' := [some (.ref 1000), some (.int x1), some (.int (0 : Int32))]) (st' := []) (σ' := (S, (si (sl (sl (sl (sl M 1022 (1 : Int64)) 1023 (0 : Int64)) 1024 (gl (sl (sl M 1022 (1 : Int64)) 1023 (0 : Int64)) 1013)) 1025 (gl (sl (sl (sl M 1022 (1 : Int64)) 1023 (0 : Int64)) 1024 (gl (sl (sl M 1022 (1 : Int64)) 1023 (0 : Int64)) 1013)) 1014)) 1026 (0 : Int32)), O)) (rfl) ?_
  exact Ex_mono (L := [some (.ref 1000), some (.int x1), some (.int (0 : Int32))]) (Le_s (Le_s (Le_s (Le_0)))) (X_m_tellOne_33 hd FU _ _ _ _ _ hF) (Nat.le_refl _) (by omega)
