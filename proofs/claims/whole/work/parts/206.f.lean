/-! ===== what the methods do, as functions, and that the small machine does it (printed by wip/whole/gen4.py) ===== -/
def F_Fi_firstNet_5 : Nat → Int64 → Int32 → Int32 → Sto → Option (Int32 × Sto)
  | 0, _, _, _, _ => none
  | n + 1, x1, x3, x4, S => if (gi S 44) ≤ x4 then some ((-1 : Int32), S) else if (8 : Int32) ≤ x4 then some ((-1 : Int32), S) else b2 (F_Fi_haulsBy (F_Fi_fewestHauls 12) x4 x3 x1 (0 : Int32) (0 : Int32) S) (fun r1 S3 => if r1 = (gi S3 45) then some (x4, S3) else F_Fi_firstNet_5 n x1 (x3 * (3 : Int32)) (x4 + (1 : Int32)) S3)
set_option maxRecDepth 100000 in
theorem X_Fi_firstNet_5 {nL : Nat} {xs : Nat → Int32} {M : Sto} {O : Sto} {d : Nat} (hd : 32 ≤ d) : ∀ n : Nat, ∀ (x1 : Int64) (x3 : Int32) (x4 : Int32) (S : Sto) (r : Int32) (S' : Sto), F_Fi_firstNet_5 n x1 x3 x4 S = some (r, S') → EX nL xs 0 MI_188 d 5 [some (.ref 47), some (.long x1), none, some (.int x3), some (.int x4)] [] (S, M, O) (.inl (some (.int r))) (S', M, O) := by
  intro n
  induction n with
  | zero => intro x1 x3 x4 S r S' hF; cases hF
  | succ n ih =>
  intro x1 x3 x4 S r S' hF
  unfold F_Fi_firstNet_5 at hF
  refine Ex_go 4 (pc' := if (gi S 44) ≤ x4 then 51 else 14) (L' := [some (.ref 47), some (.long x1), none, some (.int x3), some (.int x4)]) (st' := []) (σ' := (S, M, O)) (rfl) ?_
  refine Ex_br (fun hc => ?_) (fun hc => ?_)
  · rw [if_pos hc] at hF
    refine Ex_go 1 (pc' := 52) (L' := [some (.ref 47), some (.long x1), none, some (.int x3), some (.int x4)]) (st' := [.int (-1 : Int32)]) (σ' := (S, M, O)) (rfl) ?_
    cases hF
    exact Ex_fin rfl
  · rw [if_neg hc] at hF
    refine Ex_go 3 (pc' := if (8 : Int32) ≤ x4 then 51 else 21) (L' := [some (.ref 47), some (.long x1), none, some (.int x3), some (.int x4)]) (st' := []) (σ' := (S, M, O)) (rfl) ?_
    refine Ex_br (fun hc => ?_) (fun hc => ?_)
    · rw [if_pos hc] at hF
      refine Ex_go 1 (pc' := 52) (L' := [some (.ref 47), some (.long x1), none, some (.int x3), some (.int x4)]) (st' := [.int (-1 : Int32)]) (σ' := (S, M, O)) (rfl) ?_
      cases hF
      exact Ex_fin rfl
    · rw [if_neg hc] at hF
      refine Ex_go 6 (pc' := 28) (L' := [some (.ref 47), some (.long x1), none, some (.int x3), some (.int x4)]) (st' := [.int (0 : Int32), .int (0 : Int32), .long x1, .int x3, .int x4, .ref 47]) (σ' := (S, M, O)) (rfl) ?_
      obtain ⟨r1, S3, hx2, hF⟩ := b2_i hF
      refine Ex_call (kind := 2) (y := 186) (as := [.ref 47, .int x4, .int x3, .long x1, .int (0 : Int32), .int (0 : Int32)]) (rest := []) (L0 := [some (.ref 47), some (.int x4), some (.int x3), some (.long x1), none, some (.int (0 : Int32)), some (.int (0 : Int32)), none, none, none, none, none]) (d' := 31) (v := some (.int r1)) (σ1 := (S3, M, O)) rfl rfl mt_186 rfl rfl (by omega) (X_Fi_haulsBy (E := 30) (by decide) (Nat.le_refl _) (X_Fi_fewestHauls 12 (Nat.le_refl _)) _ _ _ _ _ _ _ _ hx2) (Ex_st (st2 := [.int r1]) rfl ?_)
      refine Ex_go 3 (pc' := if ¬ r1 = (gi S3 45) then 41 else 38) (L' := [some (.ref 47), some (.long x1), none, some (.int x3), some (.int x4)]) (st' := []) (σ' := (S3, M, O)) (rfl) ?_
      refine Ex_brN (fun hc => ?_) (fun hc => ?_)
      · rw [if_pos hc] at hF
        refine Ex_go 1 (pc' := 40) (L' := [some (.ref 47), some (.long x1), none, some (.int x3), some (.int x4)]) (st' := [.int x4]) (σ' := (S3, M, O)) (rfl) ?_
        cases hF
        exact Ex_fin rfl
      · rw [if_neg hc] at hF
        refine Ex_go 6 (pc' := 5) (L' := [some (.ref 47), some (.long x1), none, some (.int (x3 * (3 : Int32))), some (.int (x4 + (1 : Int32)))]) (st' := []) (σ' := (S3, M, O)) (rfl) ?_
        exact Ex_mono (L := [some (.ref 47), some (.long x1), none, some (.int (x3 * (3 : Int32))), some (.int (x4 + (1 : Int32)))]) (Le_s (Le_s (Le_n (Le_s (Le_s (Le_0)))))) (ih _ _ _ _ _ _ hF) (Nat.le_refl _) (by omega)
def F_Fi_firstNet (x1 : Int64) (S : Sto) : Option (Int32 × Sto) := F_Fi_firstNet_5 FU x1 (1 : Int32) (0 : Int32) S
set_option maxRecDepth 100000 in
theorem X_Fi_firstNet {nL : Nat} {xs : Nat → Int32} {M : Sto} {O : Sto} {d : Nat} (hd : 32 ≤ d) : ∀ (x1 : Int64) (S : Sto) (r : Int32) (S' : Sto), F_Fi_firstNet x1 S = some (r, S') → EX nL xs 0 MI_188 d 0 [some (.ref 47), some (.long x1), none, none, none] [] (S, M, O) (.inl (some (.int r))) (S', M, O) := by
  intro x1 S r S' hF
  unfold F_Fi_firstNet at hF
  refine Ex_go 4 (pc' := 5) (L' := [some (.ref 47), some (.long x1), none, some (.int (1 : Int32)), some (.int (0 : Int32))]) (st' := []) (σ' := (S, M, O)) (rfl) ?_
  exact Ex_mono (L := [some (.ref 47), some (.long x1), none, some (.int (1 : Int32)), some (.int (0 : Int32))]) (Le_s (Le_s (Le_n (Le_s (Le_s (Le_0)))))) (X_Fi_firstNet_5 hd FU _ _ _ _ _ _ hF) (Nat.le_refl _) (by omega)
def F_Fi_look_53 (k31 : Int32 → Int32 → Sto → Option (Unit × Sto)) : Nat → Int32 → Int32 → Int32 → Int32 → Sto → Option (Unit × Sto)
  | 0, _, _, _, _, _ => none
  | n + 1, x2, x3, x4, x5, S => if (8 : Int32) ≤ x5 then k31 x2 (x3 + (1 : Int32)) S else ck (ib x5 8) (b1 (F_w_bit (Int32.toInt64 x4) x5) (fun r2 => ck (ib x5 8) (F_Fi_look_53 k31 n x2 x3 x4 (x5 + (1 : Int32)) (ul S 48 (vp_updL (al S 48) (Int32.toNatClampNeg x5) ((al S 48 (Int32.toNatClampNeg x5)) ||| ((Int32.toInt64 r2) <<< (Int32.toInt64 x3 &&& 63))))))))
set_option maxRecDepth 100000 in
theorem X_Fi_look_53 {nL : Nat} {xs : Nat → Int32} {M : Sto} {O : Sto} {d : Nat} (hd : 33 ≤ d) {k31 : Int32 → Int32 → Sto → Option (Unit × Sto)} (hk31 : ∀ (x2 : Int32) (x3 : Int32) (S : Sto) (r : Unit) (S' : Sto), k31 x2 x3 S = some (r, S') → EX nL xs 0 MI_189 d 31 [some (.ref 47), some (.ref 12), some (.int x2), some (.int x3), none, none] [] (S, M, O) (.inl none) (S', M, O)) : ∀ n : Nat, ∀ (x2 : Int32) (x3 : Int32) (x4 : Int32) (x5 : Int32) (S : Sto) (r : Unit) (S' : Sto), F_Fi_look_53 k31 n x2 x3 x4 x5 S = some (r, S') → EX nL xs 0 MI_189 d 53 [some (.ref 47), some (.ref 12), some (.int x2), some (.int x3), some (.int x4), some (.int x5)] [] (S, M, O) (.inl none) (S', M, O) := by
  intro n
  induction n with
  | zero => intro x2 x3 x4 x5 S r S' hF; cases hF
  | succ n ih =>
  intro x2 x3 x4 x5 S r S' hF
  unfold F_Fi_look_53 at hF
  refine Ex_go 3 (pc' := if (8 : Int32) ≤ x5 then 92 else 60) (L' := [some (.ref 47), some (.ref 12), some (.int x2), some (.int x3), some (.int x4), some (.int x5)]) (st' := []) (σ' := (S, M, O)) (rfl) ?_
  refine Ex_br (fun hc => ?_) (fun hc => ?_)
  · rw [if_pos hc] at hF
    refine Ex_go 2 (pc' := 31) (L' := [some (.ref 47), some (.ref 12), some (.int x2), some (.int (x3 + (1 : Int32))), some (.int x4), some (.int x5)]) (st' := []) (σ' := (S, M, O)) (rfl) ?_
    exact Ex_mono (L := [some (.ref 47), some (.ref 12), some (.int x2), some (.int (x3 + (1 : Int32))), none, none]) (Le_s (Le_s (Le_s (Le_s (Le_n (Le_n (Le_0))))))) (hk31 _ _ _ _ _ hF) (Nat.le_refl _) (by omega)
  · rw [if_neg hc] at hF
    refine Ex_go 6 (pc' := 72) (L' := [some (.ref 47), some (.ref 12), some (.int x2), some (.int x3), some (.int x4), some (.int x5)]) (st' := [.int x5, .ref 48, .int x5, .ref 48]) (σ' := (S, M, O)) (rfl) ?_
    obtain ⟨hc1, hF⟩ := ck_i hF
    refine Ex_chk (b := ib x5 8) (pc' := 73) (L' := [some (.ref 47), some (.ref 12), some (.int x2), some (.int x3), some (.int x4), some (.int x5)]) (st' := [.long (al S 48 (Int32.toNatClampNeg x5)), .int x5, .ref 48]) (σ' := (S, M, O)) rfl hc1 ?_
    refine Ex_go 3 (pc' := 78) (L' := [some (.ref 47), some (.ref 12), some (.int x2), some (.int x3), some (.int x4), some (.int x5)]) (st' := [.int x5, .long (Int32.toInt64 x4), .long (al S 48 (Int32.toNatClampNeg x5)), .int x5, .ref 48]) (σ' := (S, M, O)) (rfl) ?_
    obtain ⟨r2, hx3, hF⟩ := b1_i hF
    refine Ex_call (kind := 1) (y := 15) (as := [.long (Int32.toInt64 x4), .int x5]) (rest := [.long (al S 48 (Int32.toNatClampNeg x5)), .int x5, .ref 48]) (L0 := [some (.long (Int32.toInt64 x4)), none, some (.int x5)]) (d' := 1) (v := some (.int r2)) (σ1 := (S, M, O)) rfl rfl mt_15 rfl rfl (by omega) (X_w_bit (Nat.le_refl _) _ _ _ hx3) (Ex_st (st2 := [.int r2, .long (al S 48 (Int32.toNatClampNeg x5)), .int x5, .ref 48]) rfl ?_)
    refine Ex_go 4 (pc' := 85) (L' := [some (.ref 47), some (.ref 12), some (.int x2), some (.int x3), some (.int x4), some (.int x5)]) (st' := [.long ((al S 48 (Int32.toNatClampNeg x5)) ||| ((Int32.toInt64 r2) <<< (Int32.toInt64 x3 &&& 63))), .int x5, .ref 48]) (σ' := (S, M, O)) (rfl) ?_
    obtain ⟨hc4, hF⟩ := ck_i hF
    refine Ex_chk (b := ib x5 8) (pc' := 86) (L' := [some (.ref 47), some (.ref 12), some (.int x2), some (.int x3), some (.int x4), some (.int x5)]) (st' := []) (σ' := ((ul S 48 (vp_updL (al S 48) (Int32.toNatClampNeg x5) ((al S 48 (Int32.toNatClampNeg x5)) ||| ((Int32.toInt64 r2) <<< (Int32.toInt64 x3 &&& 63))))), M, O)) rfl hc4 ?_
    refine Ex_go 2 (pc' := 53) (L' := [some (.ref 47), some (.ref 12), some (.int x2), some (.int x3), some (.int x4), some (.int (x5 + (1 : Int32)))]) (st' := []) (σ' := ((ul S 48 (vp_updL (al S 48) (Int32.toNatClampNeg x5) ((al S 48 (Int32.toNatClampNeg x5)) ||| ((Int32.toInt64 r2) <<< (Int32.toInt64 x3 &&& 63))))), M, O)) (rfl) ?_
    exact Ex_mono (L := [some (.ref 47), some (.ref 12), some (.int x2), some (.int x3), some (.int x4), some (.int (x5 + (1 : Int32)))]) (Le_s (Le_s (Le_s (Le_s (Le_s (Le_s (Le_0))))))) (ih _ _ _ _ _ _ _ hF) (Nat.le_refl _) (by omega)
def F_Fi_look_186 (s1 : Int32) (S : Sto) : Option (Unit × Sto) := some ((), (si S 45 s1))
set_option maxRecDepth 100000 in
theorem X_Fi_look_186 {nL : Nat} {xs : Nat → Int32} {M : Sto} {O : Sto} {d : Nat} (hd : 33 ≤ d) : ∀ (s1 : Int32) (S : Sto) (r : Unit) (S' : Sto), F_Fi_look_186 s1 S = some (r, S') → EX nL xs 0 MI_189 d 186 [none, none, none, none, none, none] [.int s1, .ref 47] (S, M, O) (.inl none) (S', M, O) := by
  intro s1 S r S' hF
  unfold F_Fi_look_186 at hF
  refine Ex_go 1 (pc' := 189) (L' := [none, none, none, none, none, none]) (st' := []) (σ' := ((si S 45 s1), M, O)) (rfl) ?_
  cases hF
  exact Ex_fin rfl
def F_Fi_look_165 (s1 : Int32) (S : Sto) : Option (Unit × Sto) := if (99 : Int32) ≤ (gi (si S 46 s1) 45) then F_Fi_look_186 (-1 : Int32) (si S 46 s1) else F_Fi_look_186 (gi (si S 46 s1) 45) (si S 46 s1)
set_option maxRecDepth 100000 in
theorem X_Fi_look_165 {nL : Nat} {xs : Nat → Int32} {M : Sto} {O : Sto} {d : Nat} (hd : 33 ≤ d) : ∀ (s1 : Int32) (S : Sto) (r : Unit) (S' : Sto), F_Fi_look_165 s1 S = some (r, S') → EX nL xs 0 MI_189 d 165 [some (.ref 47), none, none, none, none, none] [.int s1, .ref 47] (S, M, O) (.inl none) (S', M, O) := by
  intro s1 S r S' hF
  unfold F_Fi_look_165 at hF
  refine Ex_go 6 (pc' := if (99 : Int32) ≤ (gi (si S 46 s1) 45) then 185 else 178) (L' := [some (.ref 47), none, none, none, none, none]) (st' := [.ref 47]) (σ' := ((si S 46 s1), M, O)) (rfl) ?_
  refine Ex_br (fun hc => ?_) (fun hc => ?_)
  · rw [if_pos hc] at hF
    refine Ex_go 1 (pc' := 186) (L' := [some (.ref 47), none, none, none, none, none]) (st' := [.int (-1 : Int32), .ref 47]) (σ' := ((si S 46 s1), M, O)) (rfl) ?_
    exact Ex_mono (L := [none, none, none, none, none, none]) (Le_n (Le_n (Le_n (Le_n (Le_n (Le_n (Le_0))))))) (X_Fi_look_186 hd _ _ _ _ hF) (Nat.le_refl _) (by omega)
  · rw [if_neg hc] at hF
    refine Ex_go 3 (pc' := 186) (L' := [some (.ref 47), none, none, none, none, none]) (st' := [.int (gi (si S 46 s1) 45), .ref 47]) (σ' := ((si S 46 s1), M, O)) (rfl) ?_
    exact Ex_mono (L := [none, none, none, none, none, none]) (Le_n (Le_n (Le_n (Le_n (Le_n (Le_n (Le_0))))))) (X_Fi_look_186 hd _ _ _ _ hF) (Nat.le_refl _) (by omega)
def F_Fi_look_164 (S : Sto) : Option (Unit × Sto) := F_Fi_look_165 (-1 : Int32) S
set_option maxRecDepth 100000 in
theorem X_Fi_look_164 {nL : Nat} {xs : Nat → Int32} {M : Sto} {O : Sto} {d : Nat} (hd : 33 ≤ d) : ∀ (S : Sto) (r : Unit) (S' : Sto), F_Fi_look_164 S = some (r, S') → EX nL xs 0 MI_189 d 164 [some (.ref 47), none, none, none, none, none] [.ref 47] (S, M, O) (.inl none) (S', M, O) := by
  intro S r S' hF
  unfold F_Fi_look_164 at hF
  refine Ex_go 1 (pc' := 165) (L' := [some (.ref 47), none, none, none, none, none]) (st' := [.int (-1 : Int32), .ref 47]) (σ' := (S, M, O)) (rfl) ?_
  exact Ex_mono (L := [some (.ref 47), none, none, none, none, none]) (Le_s (Le_n (Le_n (Le_n (Le_n (Le_n (Le_0))))))) (X_Fi_look_165 hd _ _ _ _ hF) (Nat.le_refl _) (by omega)
def F_Fi_look_100 : Nat → Int32 → Int32 → Sto → Option (Unit × Sto)
  | 0, _, _, _ => none
  | n + 1, x2, x3, S => if (6561 : Int32) ≤ x3 then nm ((((1 : Int64) <<< (Int32.toInt64 x2 &&& 63)) - (1 : Int64)) <<< (Int32.toInt64 (1 : Int32) &&& 63)) (fun t1 => b2 (F_Fi_fewestHauls 12 t1 (0 : Int32) (0 : Int32) S) (fun r3 S5 => if (gi (si S5 45 r3) 45) ≤ 0 then F_Fi_look_164 (si S5 45 r3) else if (99 : Int32) ≤ (gi (si S5 45 r3) 45) then F_Fi_look_164 (si S5 45 r3) else b2 (F_Fi_firstNet t1 (si S5 45 r3)) (fun r6 S8 => F_Fi_look_165 r6 S8))) else ck (ib x3 6561) (F_Fi_look_100 n x2 (x3 + (1 : Int32)) (ui S 49 (upd (ai S 49) (Int32.toNatClampNeg x3) (0 : Int32))))
set_option maxRecDepth 100000 in
theorem X_Fi_look_100 {nL : Nat} {xs : Nat → Int32} {M : Sto} {O : Sto} {d : Nat} (hd : 33 ≤ d) : ∀ n : Nat, ∀ (x2 : Int32) (x3 : Int32) (S : Sto) (r : Unit) (S' : Sto), F_Fi_look_100 n x2 x3 S = some (r, S') → EX nL xs 0 MI_189 d 100 [some (.ref 47), none, some (.int x2), some (.int x3), none, none] [] (S, M, O) (.inl none) (S', M, O) := by
  intro n
  induction n with
  | zero => intro x2 x3 S r S' hF; cases hF
  | succ n ih =>
  intro x2 x3 S r S' hF
  unfold F_Fi_look_100 at hF
  refine Ex_go 3 (pc' := if (6561 : Int32) ≤ x3 then 120 else 107) (L' := [some (.ref 47), none, some (.int x2), some (.int x3), none, none]) (st' := []) (σ' := (S, M, O)) (rfl) ?_
  refine Ex_br (fun hc => ?_) (fun hc => ?_)
  · rw [if_pos hc] at hF
    obtain ⟨t1, ht2, hF⟩ := nm_i hF
    refine Ex_go 8 (pc' := 128) (L' := [some (.ref 47), none, some (.int x2), some (.long t1), none, none]) (st' := []) (σ' := (S, M, O)) (by rw [ht2]; rfl) ?_
    refine Ex_go 5 (pc' := 133) (L' := [some (.ref 47), none, some (.int x2), some (.long t1), none, none]) (st' := [.int (0 : Int32), .int (0 : Int32), .long t1, .ref 47, .ref 47]) (σ' := (S, M, O)) (rfl) ?_
    obtain ⟨r3, S5, hx4, hF⟩ := b2_i hF
    refine Ex_call (kind := 2) (y := 187) (as := [.ref 47, .long t1, .int (0 : Int32), .int (0 : Int32)]) (rest := [.ref 47]) (L0 := [some (.ref 47), some (.long t1), none, some (.int (0 : Int32)), some (.int (0 : Int32)), none, none, none]) (d' := 30) (v := some (.int r3)) (σ1 := (S5, M, O)) rfl rfl mt_187 rfl rfl (by omega) (X_Fi_fewestHauls 12 (Nat.le_refl _) _ _ _ _ _ _ hx4) (Ex_st (st2 := [.int r3, .ref 47]) rfl ?_)
    refine Ex_go 5 (pc' := if (gi (si S5 45 r3) 45) ≤ 0 then 164 else 147) (L' := [some (.ref 47), none, some (.int x2), some (.long t1), none, none]) (st' := [.ref 47]) (σ' := ((si S5 45 r3), M, O)) (rfl) ?_
    refine Ex_br (fun hc => ?_) (fun hc => ?_)
    · rw [if_pos hc] at hF
      exact Ex_mono (L := [some (.ref 47), none, none, none, none, none]) (Le_s (Le_n (Le_n (Le_n (Le_n (Le_n (Le_0))))))) (X_Fi_look_164 hd _ _ _ hF) (Nat.le_refl _) (by omega)
    · rw [if_neg hc] at hF
      refine Ex_go 4 (pc' := if (99 : Int32) ≤ (gi (si S5 45 r3) 45) then 164 else 156) (L' := [some (.ref 47), none, some (.int x2), some (.long t1), none, none]) (st' := [.ref 47]) (σ' := ((si S5 45 r3), M, O)) (rfl) ?_
      refine Ex_br (fun hc => ?_) (fun hc => ?_)
      · rw [if_pos hc] at hF
        exact Ex_mono (L := [some (.ref 47), none, none, none, none, none]) (Le_s (Le_n (Le_n (Le_n (Le_n (Le_n (Le_0))))))) (X_Fi_look_164 hd _ _ _ hF) (Nat.le_refl _) (by omega)
      · rw [if_neg hc] at hF
        refine Ex_go 2 (pc' := 158) (L' := [some (.ref 47), none, some (.int x2), some (.long t1), none, none]) (st' := [.long t1, .ref 47, .ref 47]) (σ' := ((si S5 45 r3), M, O)) (rfl) ?_
        obtain ⟨r6, S8, hx7, hF⟩ := b2_i hF
        refine Ex_call (kind := 2) (y := 188) (as := [.ref 47, .long t1]) (rest := [.ref 47]) (L0 := [some (.ref 47), some (.long t1), none, none, none]) (d' := 32) (v := some (.int r6)) (σ1 := (S8, M, O)) rfl rfl mt_188 rfl rfl (by omega) (X_Fi_firstNet (Nat.le_refl _) _ _ _ _ hx7) (Ex_st (st2 := [.int r6, .ref 47]) rfl ?_)
        refine Ex_go 1 (pc' := 165) (L' := [some (.ref 47), none, some (.int x2), some (.long t1), none, none]) (st' := [.int r6, .ref 47]) (σ' := (S8, M, O)) (rfl) ?_
        exact Ex_mono (L := [some (.ref 47), none, none, none, none, none]) (Le_s (Le_n (Le_n (Le_n (Le_n (Le_n (Le_0))))))) (X_Fi_look_165 hd _ _ _ _ hF) (Nat.le_refl _) (by omega)
  · rw [if_neg hc] at hF
    refine Ex_go 4 (pc' := 113) (L' := [some (.ref 47), none, some (.int x2), some (.int x3), none, none]) (st' := [.int (0 : Int32), .int x3, .ref 49]) (σ' := (S, M, O)) (rfl) ?_
    obtain ⟨hc9, hF⟩ := ck_i hF
    refine Ex_chk (b := ib x3 6561) (pc' := 114) (L' := [some (.ref 47), none, some (.int x2), some (.int x3), none, none]) (st' := []) (σ' := ((ui S 49 (upd (ai S 49) (Int32.toNatClampNeg x3) (0 : Int32))), M, O)) rfl hc9 ?_
    refine Ex_go 2 (pc' := 100) (L' := [some (.ref 47), none, some (.int x2), some (.int (x3 + (1 : Int32))), none, none]) (st' := []) (σ' := ((ui S 49 (upd (ai S 49) (Int32.toNatClampNeg x3) (0 : Int32))), M, O)) (rfl) ?_
    exact Ex_mono (L := [some (.ref 47), none, some (.int x2), some (.int (x3 + (1 : Int32))), none, none]) (Le_s (Le_n (Le_s (Le_s (Le_n (Le_n (Le_0))))))) (ih _ _ _ _ _ hF) (Nat.le_refl _) (by omega)
def F_Fi_look_98 (x2 : Int32) (S : Sto) : Option (Unit × Sto) := F_Fi_look_100 FU x2 (0 : Int32) S
set_option maxRecDepth 100000 in
theorem X_Fi_look_98 {nL : Nat} {xs : Nat → Int32} {M : Sto} {O : Sto} {d : Nat} (hd : 33 ≤ d) : ∀ (x2 : Int32) (S : Sto) (r : Unit) (S' : Sto), F_Fi_look_98 x2 S = some (r, S') → EX nL xs 0 MI_189 d 98 [some (.ref 47), none, some (.int x2), none, none, none] [] (S, M, O) (.inl none) (S', M, O) := by
  intro x2 S r S' hF
  unfold F_Fi_look_98 at hF
  refine Ex_go 2 (pc' := 100) (L' := [some (.ref 47), none, some (.int x2), some (.int (0 : Int32)), none, none]) (st' := []) (σ' := (S, M, O)) (rfl) ?_
  exact Ex_mono (L := [some (.ref 47), none, some (.int x2), some (.int (0 : Int32)), none, none]) (Le_s (Le_n (Le_s (Le_s (Le_n (Le_n (Le_0))))))) (X_Fi_look_100 hd FU _ _ _ _ _ hF) (Nat.le_refl _) (by omega)
def F_Fi_look_31 : Nat → Int32 → Int32 → Sto → Option (Unit × Sto)
  | 0, _, _, _ => none
  | n + 1, x2, x3, S => if x2 < x3 then F_Fi_look_98 x2 S else if (60 : Int32) < x3 then F_Fi_look_98 x2 S else b1 (F_Se_catchers (Int32.toInt64 x3) S) (fun r1 => F_Fi_look_53 (F_Fi_look_31 n) FU x2 x3 r1 (0 : Int32) S)
set_option maxRecDepth 100000 in
theorem X_Fi_look_31 {nL : Nat} {xs : Nat → Int32} {M : Sto} {O : Sto} {d : Nat} (hd : 33 ≤ d) : ∀ n : Nat, ∀ (x2 : Int32) (x3 : Int32) (S : Sto) (r : Unit) (S' : Sto), F_Fi_look_31 n x2 x3 S = some (r, S') → EX nL xs 0 MI_189 d 31 [some (.ref 47), some (.ref 12), some (.int x2), some (.int x3), none, none] [] (S, M, O) (.inl none) (S', M, O) := by
  intro n
  induction n with
  | zero => intro x2 x3 S r S' hF; cases hF
  | succ n ih =>
  intro x2 x3 S r S' hF
  unfold F_Fi_look_31 at hF
  refine Ex_go 3 (pc' := if x2 < x3 then 98 else 36) (L' := [some (.ref 47), some (.ref 12), some (.int x2), some (.int x3), none, none]) (st' := []) (σ' := (S, M, O)) (rfl) ?_
  refine Ex_br (fun hc => ?_) (fun hc => ?_)
  · rw [if_pos hc] at hF
    exact Ex_mono (L := [some (.ref 47), none, some (.int x2), none, none, none]) (Le_s (Le_n (Le_s (Le_n (Le_n (Le_n (Le_0))))))) (X_Fi_look_98 hd _ _ _ _ hF) (Nat.le_refl _) (by omega)
  · rw [if_neg hc] at hF
    refine Ex_go 3 (pc' := if (60 : Int32) < x3 then 98 else 42) (L' := [some (.ref 47), some (.ref 12), some (.int x2), some (.int x3), none, none]) (st' := []) (σ' := (S, M, O)) (rfl) ?_
    refine Ex_br (fun hc => ?_) (fun hc => ?_)
    · rw [if_pos hc] at hF
      exact Ex_mono (L := [some (.ref 47), none, some (.int x2), none, none, none]) (Le_s (Le_n (Le_s (Le_n (Le_n (Le_n (Le_0))))))) (X_Fi_look_98 hd _ _ _ _ hF) (Nat.le_refl _) (by omega)
    · rw [if_neg hc] at hF
      refine Ex_go 3 (pc' := 45) (L' := [some (.ref 47), some (.ref 12), some (.int x2), some (.int x3), none, none]) (st' := [.long (Int32.toInt64 x3), .ref 12]) (σ' := (S, M, O)) (rfl) ?_
      obtain ⟨r1, hx2, hF⟩ := b1_i hF
      refine Ex_call (kind := 2) (y := 124) (as := [.ref 12, .long (Int32.toInt64 x3)]) (rest := []) (L0 := [some (.ref 12), some (.long (Int32.toInt64 x3)), none, none, none]) (d' := 2) (v := some (.int r1)) (σ1 := (S, M, O)) rfl rfl mt_124 rfl rfl (by omega) (X_Se_catchers (Nat.le_refl _) _ _ _ hx2) (Ex_st (st2 := [.int r1]) rfl ?_)
      refine Ex_go 3 (pc' := 53) (L' := [some (.ref 47), some (.ref 12), some (.int x2), some (.int x3), some (.int r1), some (.int (0 : Int32))]) (st' := []) (σ' := (S, M, O)) (rfl) ?_
      exact Ex_mono (L := [some (.ref 47), some (.ref 12), some (.int x2), some (.int x3), some (.int r1), some (.int (0 : Int32))]) (Le_s (Le_s (Le_s (Le_s (Le_s (Le_s (Le_0))))))) (X_Fi_look_53 hd ih FU _ _ _ _ _ _ _ hF) (Nat.le_refl _) (by omega)
def F_Fi_look_10 : Nat → Int32 → Int32 → Sto → Option (Unit × Sto)
  | 0, _, _, _ => none
  | n + 1, x2, x3, S => if (8 : Int32) ≤ x3 then F_Fi_look_31 FU x2 (1 : Int32) S else ck (ib x3 8) (F_Fi_look_10 n x2 (x3 + (1 : Int32)) (ul S 48 (vp_updL (al S 48) (Int32.toNatClampNeg x3) (0 : Int64))))
set_option maxRecDepth 100000 in
theorem X_Fi_look_10 {nL : Nat} {xs : Nat → Int32} {M : Sto} {O : Sto} {d : Nat} (hd : 33 ≤ d) : ∀ n : Nat, ∀ (x2 : Int32) (x3 : Int32) (S : Sto) (r : Unit) (S' : Sto), F_Fi_look_10 n x2 x3 S = some (r, S') → EX nL xs 0 MI_189 d 10 [some (.ref 47), some (.ref 12), some (.int x2), some (.int x3), none, none] [] (S, M, O) (.inl none) (S', M, O) := by
  intro n
  induction n with
  | zero => intro x2 x3 S r S' hF; cases hF
  | succ n ih =>
  intro x2 x3 S r S' hF
  unfold F_Fi_look_10 at hF
  refine Ex_go 3 (pc' := if (8 : Int32) ≤ x3 then 29 else 16) (L' := [some (.ref 47), some (.ref 12), some (.int x2), some (.int x3), none, none]) (st' := []) (σ' := (S, M, O)) (rfl) ?_
  refine Ex_br (fun hc => ?_) (fun hc => ?_)
  · rw [if_pos hc] at hF
    refine Ex_go 2 (pc' := 31) (L' := [some (.ref 47), some (.ref 12), some (.int x2), some (.int (1 : Int32)), none, none]) (st' := []) (σ' := (S, M, O)) (rfl) ?_
    exact Ex_mono (L := [some (.ref 47), some (.ref 12), some (.int x2), some (.int (1 : Int32)), none, none]) (Le_s (Le_s (Le_s (Le_s (Le_n (Le_n (Le_0))))))) (X_Fi_look_31 hd FU _ _ _ _ _ hF) (Nat.le_refl _) (by omega)
  · rw [if_neg hc] at hF
    refine Ex_go 4 (pc' := 22) (L' := [some (.ref 47), some (.ref 12), some (.int x2), some (.int x3), none, none]) (st' := [.long (0 : Int64), .int x3, .ref 48]) (σ' := (S, M, O)) (rfl) ?_
    obtain ⟨hc1, hF⟩ := ck_i hF
    refine Ex_chk (b := ib x3 8) (pc' := 23) (L' := [some (.ref 47), some (.ref 12), some (.int x2), some (.int x3), none, none]) (st' := []) (σ' := ((ul S 48 (vp_updL (al S 48) (Int32.toNatClampNeg x3) (0 : Int64))), M, O)) rfl hc1 ?_
    refine Ex_go 2 (pc' := 10) (L' := [some (.ref 47), some (.ref 12), some (.int x2), some (.int (x3 + (1 : Int32))), none, none]) (st' := []) (σ' := ((ul S 48 (vp_updL (al S 48) (Int32.toNatClampNeg x3) (0 : Int64))), M, O)) (rfl) ?_
    exact Ex_mono (L := [some (.ref 47), some (.ref 12), some (.int x2), some (.int (x3 + (1 : Int32))), none, none]) (Le_s (Le_s (Le_s (Le_s (Le_n (Le_n (Le_0))))))) (ih _ _ _ _ _ hF) (Nat.le_refl _) (by omega)
def F_Fi_look (x2 : Int32) (S : Sto) : Option (Unit × Sto) := F_Fi_look_10 FU x2 (0 : Int32) (si S 44 (gi S 22))
set_option maxRecDepth 100000 in
theorem X_Fi_look {nL : Nat} {xs : Nat → Int32} {M : Sto} {O : Sto} {d : Nat} (hd : 33 ≤ d) : ∀ (x2 : Int32) (S : Sto) (r : Unit) (S' : Sto), F_Fi_look x2 S = some (r, S') → EX nL xs 0 MI_189 d 0 [some (.ref 47), some (.ref 12), some (.int x2), none, none, none] [] (S, M, O) (.inl none) (S', M, O) := by
  intro x2 S r S' hF
  unfold F_Fi_look at hF
  refine Ex_go 6 (pc' := 10) (L' := [some (.ref 47), some (.ref 12), some (.int x2), some (.int (0 : Int32)), none, none]) (st' := []) (σ' := ((si S 44 (gi S 22)), M, O)) (rfl) ?_
  exact Ex_mono (L := [some (.ref 47), some (.ref 12), some (.int x2), some (.int (0 : Int32)), none, none]) (Le_s (Le_s (Le_s (Le_s (Le_n (Le_n (Le_0))))))) (X_Fi_look_10 hd FU _ _ _ _ _ hF) (Nat.le_refl _) (by omega)
def F_w_find_9 (S : Sto) : Option ((Int32 ⊕ Nat) × Sto) := some ((.inr 1), S)
set_option maxRecDepth 100000 in
theorem X_w_find_9 {nL : Nat} {xs : Nat → Int32} {M : Sto} {O : Sto} {d : Nat} (hd : 34 ≤ d) : ∀ (S : Sto) (r : Int32 ⊕ Nat) (S' : Sto), F_w_find_9 S = some (r, S') → EX nL xs 1 MI_190 d 9 [none, none, none] [] (S, M, O) (rsI r) (S', M, O) := by
  intro S r S' hF
  unfold F_w_find_9 at hF
  cases hF
  exact Ex_thr rfl (by omega) (Nat.le_refl _)
def F_w_find_28 (S : Sto) : Option ((Int32 ⊕ Nat) × Sto) := some ((.inr 0), S)
set_option maxRecDepth 100000 in
theorem X_w_find_28 {nL : Nat} {xs : Nat → Int32} {M : Sto} {O : Sto} {d : Nat} (hd : 34 ≤ d) : ∀ (S : Sto) (r : Int32 ⊕ Nat) (S' : Sto), F_w_find_28 S = some (r, S') → EX nL xs 1 MI_190 d 28 [none, none, none] [] (S, M, O) (rsI r) (S', M, O) := by
  intro S r S' hF
  unfold F_w_find_28 at hF
  cases hF
  exact Ex_thr rfl (by omega) (Nat.le_refl _)
def F_w_find (x1 : Int32) (x2 : Int32) (S : Sto) : Option ((Int32 ⊕ Nat) × Sto) := if x2 < 0 then F_w_find_9 S else if x2 ≤ (1 : Int32) then if x1 < (1 : Int32) then F_w_find_28 S else if x1 ≤ (60 : Int32) then b2 (F_Fi_look x1 S) (fun r1 S3 => if x2 = 0 then some ((.inl (gi S3 45)), S3) else some ((.inl (gi S3 46)), S3)) else F_w_find_28 S else F_w_find_9 S
set_option maxRecDepth 100000 in
theorem X_w_find {nL : Nat} {xs : Nat → Int32} {M : Sto} {O : Sto} {d : Nat} (hd : 34 ≤ d) : ∀ (x1 : Int32) (x2 : Int32) (S : Sto) (r : Int32 ⊕ Nat) (S' : Sto), F_w_find x1 x2 S = some (r, S') → EX nL xs 1 MI_190 d 0 [some (.ref 0), some (.int x1), some (.int x2)] [] (S, M, O) (rsI r) (S', M, O) := by
  intro x1 x2 S r S' hF
  unfold F_w_find at hF
  refine Ex_go 2 (pc' := if x2 < 0 then 9 else 4) (L' := [some (.ref 0), some (.int x1), some (.int x2)]) (st' := []) (σ' := (S, M, O)) (rfl) ?_
  refine Ex_br (fun hc => ?_) (fun hc => ?_)
  · rw [if_pos hc] at hF
    exact Ex_mono (L := [none, none, none]) (Le_n (Le_n (Le_n (Le_0)))) (X_w_find_9 hd _ _ _ hF) (Nat.le_refl _) (by omega)
  · rw [if_neg hc] at hF
    refine Ex_go 3 (pc' := if x2 ≤ (1 : Int32) then 17 else 9) (L' := [some (.ref 0), some (.int x1), some (.int x2)]) (st' := []) (σ' := (S, M, O)) (rfl) ?_
    refine Ex_br (fun hc => ?_) (fun hc => ?_)
    · rw [if_pos hc] at hF
      refine Ex_go 3 (pc' := if x1 < (1 : Int32) then 28 else 22) (L' := [some (.ref 0), some (.int x1), some (.int x2)]) (st' := []) (σ' := (S, M, O)) (rfl) ?_
      refine Ex_br (fun hc => ?_) (fun hc => ?_)
      · rw [if_pos hc] at hF
        exact Ex_mono (L := [none, none, none]) (Le_n (Le_n (Le_n (Le_0)))) (X_w_find_28 hd _ _ _ hF) (Nat.le_refl _) (by omega)
      · rw [if_neg hc] at hF
        refine Ex_go 3 (pc' := if x1 ≤ (60 : Int32) then 36 else 28) (L' := [some (.ref 0), some (.int x1), some (.int x2)]) (st' := []) (σ' := (S, M, O)) (rfl) ?_
        refine Ex_br (fun hc => ?_) (fun hc => ?_)
        · rw [if_pos hc] at hF
          refine Ex_go 5 (pc' := 45) (L' := [some (.ref 0), some (.int x1), some (.int x2)]) (st' := [.int x1, .ref 12, .ref 47]) (σ' := (S, M, O)) (rfl) ?_
          obtain ⟨r1, S3, hx2, hF⟩ := b2_i hF
          refine Ex_callK (K1 := 0) (K2 := 1) (kind := 2) (y := 189) (as := [.ref 47, .ref 12, .int x1]) (rest := []) (L0 := [some (.ref 47), some (.ref 12), some (.int x1), none, none, none]) (d' := 33) (v := none) (σ1 := (S3, M, O)) rfl rfl mt_189 rfl rfl (by omega) (X_Fi_look (Nat.le_refl _) _ _ _ _ hx2) (Ex_st (st2 := []) rfl ?_) (by omega)
          refine Ex_go 2 (pc' := if ¬ x2 = 0 then 62 else 52) (L' := [some (.ref 0), some (.int x1), some (.int x2)]) (st' := []) (σ' := (S3, M, O)) (rfl) ?_
          refine Ex_brN (fun hc => ?_) (fun hc => ?_)
          · rw [if_pos hc] at hF
            refine Ex_go 4 (pc' := 69) (L' := [some (.ref 0), some (.int x1), some (.int x2)]) (st' := [.int (gi S3 45)]) (σ' := (S3, M, O)) (rfl) ?_
            cases hF
            exact Ex_fin rfl
          · rw [if_neg hc] at hF
            refine Ex_go 3 (pc' := 69) (L' := [some (.ref 0), some (.int x1), some (.int x2)]) (st' := [.int (gi S3 46)]) (σ' := (S3, M, O)) (rfl) ?_
            cases hF
            exact Ex_fin rfl
        · rw [if_neg hc] at hF
          exact Ex_mono (L := [none, none, none]) (Le_n (Le_n (Le_n (Le_0)))) (X_w_find_28 hd _ _ _ hF) (Nat.le_refl _) (by omega)
    · rw [if_neg hc] at hF
      exact Ex_mono (L := [none, none, none]) (Le_n (Le_n (Le_n (Le_0)))) (X_w_find_9 hd _ _ _ hF) (Nat.le_refl _) (by omega)
def F_l_find (x1 : Int32) (x2 : Int32) (S : Sto) (O : Sto) : Option (Int32 × Sto × Sto) := b2 (F_w_find x1 x2 S) (fun r1 S3 => su r1 (fun v4 => some ((0 : Int32), S3, (ul O 2000 (vp_updL (al O 2000) (Int32.toNatClampNeg (0 : Int32)) (Int32.toInt64 v4))))) (fun z5 => if z5 = 0 then some ((2 : Int32), S3, O) else (if z5 = 1 then some ((1 : Int32), S3, O) else (none))))
set_option maxRecDepth 100000 in
theorem X_l_find {nL : Nat} {xs : Nat → Int32} {M : Sto} {d : Nat} (hd : 35 ≤ d) : ∀ (x1 : Int32) (x2 : Int32) (S : Sto) (O : Sto) (r : Int32) (S' : Sto) (O' : Sto), F_l_find x1 x2 S O = some (r, S', O') → EX nL xs 1 MI_191 d 0 [some (.ref 0), some (.int x1), some (.int x2), some (.ref 2000), none] [] (S, M, O) (.inl (some (.int r))) (S', M, O') := by
  intro x1 x2 S O r S' O' hF
  unfold F_l_find at hF
  refine Ex_go 5 (pc' := 5) (L' := [some (.ref 0), some (.int x1), some (.int x2), some (.ref 2000), none]) (st' := [.int x2, .int x1, .ref 0, .int (0 : Int32), .ref 2000]) (σ' := (S, M, O)) (rfl) ?_
  obtain ⟨r1, S3, hx2, hF⟩ := b2_i hF
  cases r1 with
  | inl v4 =>
    rw [su_l] at hF
    refine Ex_callK (K1 := 1) (K2 := 0) (kind := 3) (y := 190) (as := [.ref 0, .int x1, .int x2]) (rest := [.int (0 : Int32), .ref 2000]) (L0 := [some (.ref 0), some (.int x1), some (.int x2)]) (d' := 34) (v := some (.int v4)) (σ1 := (S3, M, O)) rfl rfl mt_190 rfl rfl (by omega) (X_w_find (Nat.le_refl _) _ _ _ _ _ hx2) (Ex_st (st2 := [.int v4, .int (0 : Int32), .ref 2000]) rfl ?_) (by omega)
    refine Ex_go 1 (pc' := 9) (L' := [some (.ref 0), some (.int x1), some (.int x2), some (.ref 2000), none]) (st' := [.long (Int32.toInt64 v4), .int (0 : Int32), .ref 2000]) (σ' := (S3, M, O)) (rfl) ?_
    refine Ex_chk (b := ib (0 : Int32) 1) (pc' := 10) (L' := [some (.ref 0), some (.int x1), some (.int x2), some (.ref 2000), none]) (st' := []) (σ' := (S3, M, (ul O 2000 (vp_updL (al O 2000) (Int32.toNatClampNeg (0 : Int32)) (Int32.toInt64 v4))))) rfl (by decide) ?_
    refine Ex_go 2 (pc' := 22) (L' := [some (.ref 0), some (.int x1), some (.int x2), some (.ref 2000), none]) (st' := [.int (0 : Int32)]) (σ' := (S3, M, (ul O 2000 (vp_updL (al O 2000) (Int32.toNatClampNeg (0 : Int32)) (Int32.toInt64 v4))))) (rfl) ?_
    cases hF
    exact Ex_fin rfl
  | inr z5 =>
    by_cases hz0 : z5 = 0
    · have hF : (if z5 = 0 then _ else _) = _ := hF
      rw [if_pos hz0] at hF
      subst hz0
      refine Ex_callX (K1 := 1) (K2 := 0) (y := 190) (as := [.ref 0, .int x1, .int x2]) (rest := [.int (0 : Int32), .ref 2000]) (L0 := [some (.ref 0), some (.int x1), some (.int x2)]) (d' := 34) (σ1 := (S3, M, O)) (x := 0) (pc' := 19) (i := 4) rfl rfl mt_190 rfl rfl (by omega) (X_w_find (Nat.le_refl _) _ _ _ _ _ hx2) rfl (Ex_L (L2 := [some (.ref 0), some (.int x1), some (.int x2), some (.ref 2000), none]) rfl ?_) (by omega)
      refine Ex_go 1 (pc' := 20) (L' := [some (.ref 0), some (.int x1), some (.int x2), some (.ref 2000), none]) (st' := [.int (2 : Int32)]) (σ' := (S3, M, O)) (rfl) ?_
      cases hF
      exact Ex_fin rfl
    have hF : (if z5 = 0 then _ else _) = _ := hF
    rw [if_neg hz0] at hF
    by_cases hz1 : z5 = 1
    · have hF : (if z5 = 1 then _ else _) = _ := hF
      rw [if_pos hz1] at hF
      subst hz1
      refine Ex_callX (K1 := 1) (K2 := 0) (y := 190) (as := [.ref 0, .int x1, .int x2]) (rest := [.int (0 : Int32), .ref 2000]) (L0 := [some (.ref 0), some (.int x1), some (.int x2)]) (d' := 34) (σ1 := (S3, M, O)) (x := 1) (pc' := 15) (i := 4) rfl rfl mt_190 rfl rfl (by omega) (X_w_find (Nat.le_refl _) _ _ _ _ _ hx2) rfl (Ex_L (L2 := [some (.ref 0), some (.int x1), some (.int x2), some (.ref 2000), none]) rfl ?_) (by omega)
      refine Ex_go 1 (pc' := 16) (L' := [some (.ref 0), some (.int x1), some (.int x2), some (.ref 2000), none]) (st' := [.int (1 : Int32)]) (σ' := (S3, M, O)) (rfl) ?_
      cases hF
      exact Ex_fin rfl
    have hF : (if z5 = 1 then _ else _) = _ := hF
    rw [if_neg hz1] at hF
    cases hF
def F_m_isFirst (rc : Int64 → Int32 → Sto → Option Int32) (x1 : Int64) (x3 : Int32) (x4 : Int32) (M : Sto) : Option Int32 := ck (ib x3 8) (if (x1 &&& (al M 1019 (Int32.toNatClampNeg x3))) = (0 : Int64) then some (0 : Int32) else if (x1 &&& (al M 1019 (Int32.toNatClampNeg x3))) = x1 then some (0 : Int32) else b1 (rc (x1 &&& (al M 1019 (Int32.toNatClampNeg x3))) (x4 - (1 : Int32)) M) (fun r2 => if r2 = 0 then some (0 : Int32) else b1 (rc (x1 &&& ((x1 &&& (al M 1019 (Int32.toNatClampNeg x3))) ^^^ (-1 : Int64))) (x4 - (1 : Int32)) M) (fun r4 => if r4 = 0 then some (0 : Int32) else some (1 : Int32))))
set_option maxRecDepth 100000 in
theorem X_m_isFirst {nL : Nat} {xs : Nat → Int32} {S : Sto} {O : Sto} {rc : Int64 → Int32 → Sto → Option Int32} {E d : Nat} (hE : 6 ≤ E) (hd : E + 1 ≤ d) (hrc : ∀ (x1 : Int64) (x3 : Int32) (M : Sto) (r : Int32), rc x1 x3 M = some r → EX nL xs 0 MI_193 E 0 [some (.ref 1000), some (.long x1), none, some (.int x3), none, none] [] (S, M, O) (.inl (some (.int r))) (S, M, O)) : ∀ (x1 : Int64) (x3 : Int32) (x4 : Int32) (M : Sto) (r : Int32), F_m_isFirst rc x1 x3 x4 M = some r → EX nL xs 0 MI_192 d 0 [some (.ref 1000), some (.long x1), none, some (.int x3), some (.int x4), none, none] [] (S, M, O) (.inl (some (.int r))) (S, M, O) := by
  intro x1 x3 x4 M r hF
  unfold F_m_isFirst at hF
  refine Ex_go 4 (pc' := 6) (L' := [some (.ref 1000), some (.long x1), none, some (.int x3), some (.int x4), none, none]) (st' := [.int x3, .ref 1019, .long x1]) (σ' := (S, M, O)) (rfl) ?_
  obtain ⟨hc1, hF⟩ := ck_i hF
  refine Ex_chk (b := ib x3 8) (pc' := 7) (L' := [some (.ref 1000), some (.long x1), none, some (.int x3), some (.int x4), none, none]) (st' := [.long (al M 1019 (Int32.toNatClampNeg x3)), .long x1]) (σ' := (S, M, O)) rfl hc1 ?_
  refine Ex_go 6 (pc' := if (lg_cmp (x1 &&& (al M 1019 (Int32.toNatClampNeg x3))) (0 : Int64)) = 0 then 60 else 17) (L' := [some (.ref 1000), some (.long x1), none, some (.int x3), some (.int x4), some (.long (x1 &&& (al M 1019 (Int32.toNatClampNeg x3)))), none]) (st' := []) (σ' := (S, M, O)) (rfl) ?_
  refine Ex_brI lc_eq (fun hc => ?_) (fun hc => ?_)
  · rw [if_pos hc] at hF
    refine Ex_go 1 (pc' := 61) (L' := [some (.ref 1000), some (.long x1), none, some (.int x3), some (.int x4), some (.long (x1 &&& (al M 1019 (Int32.toNatClampNeg x3)))), none]) (st' := [.int (0 : Int32)]) (σ' := (S, M, O)) (rfl) ?_
    cases hF
    exact Ex_fin rfl
  · rw [if_neg hc] at hF
    refine Ex_go 4 (pc' := if (lg_cmp (x1 &&& (al M 1019 (Int32.toNatClampNeg x3))) x1) = 0 then 60 else 24) (L' := [some (.ref 1000), some (.long x1), none, some (.int x3), some (.int x4), some (.long (x1 &&& (al M 1019 (Int32.toNatClampNeg x3)))), none]) (st' := []) (σ' := (S, M, O)) (rfl) ?_
    refine Ex_brI lc_eq (fun hc => ?_) (fun hc => ?_)
    · rw [if_pos hc] at hF
      refine Ex_go 1 (pc' := 61) (L' := [some (.ref 1000), some (.long x1), none, some (.int x3), some (.int x4), some (.long (x1 &&& (al M 1019 (Int32.toNatClampNeg x3)))), none]) (st' := [.int (0 : Int32)]) (σ' := (S, M, O)) (rfl) ?_
      cases hF
      exact Ex_fin rfl
    · rw [if_neg hc] at hF
      refine Ex_go 5 (pc' := 31) (L' := [some (.ref 1000), some (.long x1), none, some (.int x3), some (.int x4), some (.long (x1 &&& (al M 1019 (Int32.toNatClampNeg x3)))), none]) (st' := [.int (x4 - (1 : Int32)), .long (x1 &&& (al M 1019 (Int32.toNatClampNeg x3))), .ref 1000]) (σ' := (S, M, O)) (rfl) ?_
      obtain ⟨r2, hx3, hF⟩ := b1_i hF
      refine Ex_call (kind := 2) (y := 193) (as := [.ref 1000, .long (x1 &&& (al M 1019 (Int32.toNatClampNeg x3))), .int (x4 - (1 : Int32))]) (rest := []) (L0 := [some (.ref 1000), some (.long (x1 &&& (al M 1019 (Int32.toNatClampNeg x3)))), none, some (.int (x4 - (1 : Int32))), none, none]) (d' := E) (v := some (.int r2)) (σ1 := (S, M, O)) rfl rfl mt_193 rfl rfl (by omega) (hrc _ _ _ _ hx3) (Ex_st (st2 := [.int r2]) rfl ?_)
      refine Ex_go 1 (pc' := if r2 = 0 then 60 else 37) (L' := [some (.ref 1000), some (.long x1), none, some (.int x3), some (.int x4), some (.long (x1 &&& (al M 1019 (Int32.toNatClampNeg x3)))), none]) (st' := []) (σ' := (S, M, O)) (rfl) ?_
      refine Ex_br (fun hc => ?_) (fun hc => ?_)
      · rw [if_pos hc] at hF
        refine Ex_go 1 (pc' := 61) (L' := [some (.ref 1000), some (.long x1), none, some (.int x3), some (.int x4), some (.long (x1 &&& (al M 1019 (Int32.toNatClampNeg x3)))), none]) (st' := [.int (0 : Int32)]) (σ' := (S, M, O)) (rfl) ?_
        cases hF
        exact Ex_fin rfl
      · rw [if_neg hc] at hF
        refine Ex_go 9 (pc' := 50) (L' := [some (.ref 1000), some (.long x1), none, some (.int x3), some (.int x4), some (.long (x1 &&& (al M 1019 (Int32.toNatClampNeg x3)))), none]) (st' := [.int (x4 - (1 : Int32)), .long (x1 &&& ((x1 &&& (al M 1019 (Int32.toNatClampNeg x3))) ^^^ (-1 : Int64))), .ref 1000]) (σ' := (S, M, O)) (rfl) ?_
        obtain ⟨r4, hx5, hF⟩ := b1_i hF
        refine Ex_call (kind := 2) (y := 193) (as := [.ref 1000, .long (x1 &&& ((x1 &&& (al M 1019 (Int32.toNatClampNeg x3))) ^^^ (-1 : Int64))), .int (x4 - (1 : Int32))]) (rest := []) (L0 := [some (.ref 1000), some (.long (x1 &&& ((x1 &&& (al M 1019 (Int32.toNatClampNeg x3))) ^^^ (-1 : Int64)))), none, some (.int (x4 - (1 : Int32))), none, none]) (d' := E) (v := some (.int r4)) (σ1 := (S, M, O)) rfl rfl mt_193 rfl rfl (by omega) (hrc _ _ _ _ hx5) (Ex_st (st2 := [.int r4]) rfl ?_)
        refine Ex_go 1 (pc' := if r4 = 0 then 60 else 56) (L' := [some (.ref 1000), some (.long x1), none, some (.int x3), some (.int x4), some (.long (x1 &&& (al M 1019 (Int32.toNatClampNeg x3)))), none]) (st' := []) (σ' := (S, M, O)) (rfl) ?_
        refine Ex_br (fun hc => ?_) (fun hc => ?_)
        · rw [if_pos hc] at hF
          refine Ex_go 1 (pc' := 61) (L' := [some (.ref 1000), some (.long x1), none, some (.int x3), some (.int x4), some (.long (x1 &&& (al M 1019 (Int32.toNatClampNeg x3)))), none]) (st' := [.int (0 : Int32)]) (σ' := (S, M, O)) (rfl) ?_
          cases hF
          exact Ex_fin rfl
        · rw [if_neg hc] at hF
          refine Ex_go 2 (pc' := 61) (L' := [some (.ref 1000), some (.long x1), none, some (.int x3), some (.int x4), some (.long (x1 &&& (al M 1019 (Int32.toNatClampNeg x3)))), none]) (st' := [.int (1 : Int32)]) (σ' := (S, M, O)) (rfl) ?_
          cases hF
          exact Ex_fin rfl
def F_m_canTellb_33 (rc : Int64 → Int32 → Sto → Option Int32) : Nat → Int64 → Int32 → Int32 → Sto → Option Int32
  | 0, _, _, _, _ => none
  | n + 1, x1, x3, x5, M => if (ai M 1003 (Int32.toNatClampNeg (0 : Int32))) ≤ x5 then some (0 : Int32) else if x3 ≤ 0 then some (0 : Int32) else b1 (F_m_isFirst rc x1 x5 x3 M) (fun r1 => if r1 = 0 then F_m_canTellb_33 rc n x1 x3 (x5 + (1 : Int32)) M else some (1 : Int32))
set_option maxRecDepth 100000 in
theorem X_m_canTellb_33 {nL : Nat} {xs : Nat → Int32} {S : Sto} {O : Sto} {rc : Int64 → Int32 → Sto → Option Int32} {E d : Nat} (hE : 6 ≤ E) (hd : E + 2 ≤ d) (hrc : ∀ (x1 : Int64) (x3 : Int32) (M : Sto) (r : Int32), rc x1 x3 M = some r → EX nL xs 0 MI_193 E 0 [some (.ref 1000), some (.long x1), none, some (.int x3), none, none] [] (S, M, O) (.inl (some (.int r))) (S, M, O)) : ∀ n : Nat, ∀ (x1 : Int64) (x3 : Int32) (x5 : Int32) (M : Sto) (r : Int32), F_m_canTellb_33 rc n x1 x3 x5 M = some r → EX nL xs 0 MI_193 d 33 [some (.ref 1000), some (.long x1), none, some (.int x3), none, some (.int x5)] [] (S, M, O) (.inl (some (.int r))) (S, M, O) := by
  intro n
  induction n with
  | zero => intro x1 x3 x5 M r hF; cases hF
  | succ n ih =>
  intro x1 x3 x5 M r hF
  unfold F_m_canTellb_33 at hF
  refine Ex_go 4 (pc' := 40) (L' := [some (.ref 1000), some (.long x1), none, some (.int x3), none, some (.int x5)]) (st' := [.int (0 : Int32), .ref 1003, .int x5]) (σ' := (S, M, O)) (rfl) ?_
  refine Ex_chk (b := ib (0 : Int32) 6) (pc' := 41) (L' := [some (.ref 1000), some (.long x1), none, some (.int x3), none, some (.int x5)]) (st' := [.int (ai M 1003 (Int32.toNatClampNeg (0 : Int32))), .int x5]) (σ' := (S, M, O)) rfl (by decide) ?_
  refine Ex_go 1 (pc' := if (ai M 1003 (Int32.toNatClampNeg (0 : Int32))) ≤ x5 then 67 else 44) (L' := [some (.ref 1000), some (.long x1), none, some (.int x3), none, some (.int x5)]) (st' := []) (σ' := (S, M, O)) (rfl) ?_
  refine Ex_br (fun hc => ?_) (fun hc => ?_)
  · rw [if_pos hc] at hF
    refine Ex_go 1 (pc' := 68) (L' := [some (.ref 1000), some (.long x1), none, some (.int x3), none, some (.int x5)]) (st' := [.int (0 : Int32)]) (σ' := (S, M, O)) (rfl) ?_
    cases hF
    exact Ex_fin rfl
  · rw [if_neg hc] at hF
    refine Ex_go 2 (pc' := if x3 ≤ 0 then 67 else 48) (L' := [some (.ref 1000), some (.long x1), none, some (.int x3), none, some (.int x5)]) (st' := []) (σ' := (S, M, O)) (rfl) ?_
    refine Ex_br (fun hc => ?_) (fun hc => ?_)
    · rw [if_pos hc] at hF
      refine Ex_go 1 (pc' := 68) (L' := [some (.ref 1000), some (.long x1), none, some (.int x3), none, some (.int x5)]) (st' := [.int (0 : Int32)]) (σ' := (S, M, O)) (rfl) ?_
      cases hF
      exact Ex_fin rfl
    · rw [if_neg hc] at hF
      refine Ex_go 4 (pc' := 53) (L' := [some (.ref 1000), some (.long x1), none, some (.int x3), none, some (.int x5)]) (st' := [.int x3, .int x5, .long x1, .ref 1000]) (σ' := (S, M, O)) (rfl) ?_
      obtain ⟨r1, hx2, hF⟩ := b1_i hF
      refine Ex_call (kind := 2) (y := 192) (as := [.ref 1000, .long x1, .int x5, .int x3]) (rest := []) (L0 := [some (.ref 1000), some (.long x1), none, some (.int x5), some (.int x3), none, none]) (d' := (E + 1)) (v := some (.int r1)) (σ1 := (S, M, O)) rfl rfl mt_192 rfl rfl (by omega) (X_m_isFirst hE (Nat.le_refl _) hrc _ _ _ _ _ hx2) (Ex_st (st2 := [.int r1]) rfl ?_)
      refine Ex_go 1 (pc' := if r1 = 0 then 61 else 59) (L' := [some (.ref 1000), some (.long x1), none, some (.int x3), none, some (.int x5)]) (st' := []) (σ' := (S, M, O)) (rfl) ?_
      refine Ex_br (fun hc => ?_) (fun hc => ?_)
      · rw [if_pos hc] at hF
        refine Ex_go 2 (pc' := 33) (L' := [some (.ref 1000), some (.long x1), none, some (.int x3), none, some (.int (x5 + (1 : Int32)))]) (st' := []) (σ' := (S, M, O)) (rfl) ?_
        exact Ex_mono (L := [some (.ref 1000), some (.long x1), none, some (.int x3), none, some (.int (x5 + (1 : Int32)))]) (Le_s (Le_s (Le_n (Le_s (Le_n (Le_s (Le_0))))))) (ih _ _ _ _ _ hF) (Nat.le_refl _) (by omega)
      · rw [if_neg hc] at hF
        refine Ex_go 1 (pc' := 60) (L' := [some (.ref 1000), some (.long x1), none, some (.int x3), none, some (.int x5)]) (st' := [.int (1 : Int32)]) (σ' := (S, M, O)) (rfl) ?_
        cases hF
        exact Ex_fin rfl
def F_m_canTellb_30 (rc : Int64 → Int32 → Sto → Option Int32) (x1 : Int64) (x3 : Int32) (M : Sto) : Option Int32 := F_m_canTellb_33 rc FU x1 x3 (0 : Int32) M
set_option maxRecDepth 100000 in
theorem X_m_canTellb_30 {nL : Nat} {xs : Nat → Int32} {S : Sto} {O : Sto} {rc : Int64 → Int32 → Sto → Option Int32} {E d : Nat} (hE : 6 ≤ E) (hd : E + 2 ≤ d) (hrc : ∀ (x1 : Int64) (x3 : Int32) (M : Sto) (r : Int32), rc x1 x3 M = some r → EX nL xs 0 MI_193 E 0 [some (.ref 1000), some (.long x1), none, some (.int x3), none, none] [] (S, M, O) (.inl (some (.int r))) (S, M, O)) : ∀ (x1 : Int64) (x3 : Int32) (M : Sto) (r : Int32), F_m_canTellb_30 rc x1 x3 M = some r → EX nL xs 0 MI_193 d 30 [some (.ref 1000), some (.long x1), none, some (.int x3), none, none] [] (S, M, O) (.inl (some (.int r))) (S, M, O) := by
  intro x1 x3 M r hF
  unfold F_m_canTellb_30 at hF
  refine Ex_go 2 (pc' := 33) (L' := [some (.ref 1000), some (.long x1), none, some (.int x3), none, some (.int (0 : Int32))]) (st' := []) (σ' := (S, M, O)) (rfl) ?_
  exact Ex_mono (L := [some (.ref 1000), some (.long x1), none, some (.int x3), none, some (.int (0 : Int32))]) (Le_s (Le_s (Le_n (Le_s (Le_n (Le_s (Le_0))))))) (X_m_canTellb_33 hE hd hrc FU _ _ _ _ _ hF) (Nat.le_refl _) (by omega)
def F_m_canTellb (rc : Int64 → Int32 → Sto → Option Int32) (x1 : Int64) (x3 : Int32) (M : Sto) : Option Int32 := b1 (F_m_bitsOf x1) (fun r1 => if (2 : Int32) ≤ r1 then if (6 : Int32) ≤ x3 then F_m_canTellb_30 rc x1 x3 M else if r1 ≤ ((1 : Int32) <<< (x3 &&& 31)) then F_m_canTellb_30 rc x1 x3 M else some (0 : Int32) else some (1 : Int32))
set_option maxRecDepth 100000 in
theorem X_m_canTellb {nL : Nat} {xs : Nat → Int32} {S : Sto} {O : Sto} {rc : Int64 → Int32 → Sto → Option Int32} {E d : Nat} (hE : 6 ≤ E) (hd : E + 2 ≤ d) (hrc : ∀ (x1 : Int64) (x3 : Int32) (M : Sto) (r : Int32), rc x1 x3 M = some r → EX nL xs 0 MI_193 E 0 [some (.ref 1000), some (.long x1), none, some (.int x3), none, none] [] (S, M, O) (.inl (some (.int r))) (S, M, O)) : ∀ (x1 : Int64) (x3 : Int32) (M : Sto) (r : Int32), F_m_canTellb rc x1 x3 M = some r → EX nL xs 0 MI_193 d 0 [some (.ref 1000), some (.long x1), none, some (.int x3), none, none] [] (S, M, O) (.inl (some (.int r))) (S, M, O) := by
  intro x1 x3 M r hF
  unfold F_m_canTellb at hF
  refine Ex_go 1 (pc' := 1) (L' := [some (.ref 1000), some (.long x1), none, some (.int x3), none, none]) (st' := [.long x1]) (σ' := (S, M, O)) (rfl) ?_
  obtain ⟨r1, hx2, hF⟩ := b1_i hF
  refine Ex_call (kind := 0) (y := 85) (as := [.long x1]) (rest := []) (L0 := [some (.long x1), none, none, none, none]) (d' := 1) (v := some (.int r1)) (σ1 := (S, M, O)) rfl rfl mt_85 rfl rfl (by omega) (X_m_bitsOf (Nat.le_refl _) _ _ hx2) (Ex_st (st2 := [.int r1]) rfl ?_)
  refine Ex_go 4 (pc' := if (2 : Int32) ≤ r1 then 14 else 12) (L' := [some (.ref 1000), some (.long x1), none, some (.int x3), some (.int r1), none]) (st' := []) (σ' := (S, M, O)) (rfl) ?_
  refine Ex_br (fun hc => ?_) (fun hc => ?_)
  · rw [if_pos hc] at hF
    refine Ex_go 3 (pc' := if (6 : Int32) ≤ x3 then 30 else 20) (L' := [some (.ref 1000), some (.long x1), none, some (.int x3), some (.int r1), none]) (st' := []) (σ' := (S, M, O)) (rfl) ?_
    refine Ex_br (fun hc => ?_) (fun hc => ?_)
    · rw [if_pos hc] at hF
      exact Ex_mono (L := [some (.ref 1000), some (.long x1), none, some (.int x3), none, none]) (Le_s (Le_s (Le_n (Le_s (Le_n (Le_n (Le_0))))))) (X_m_canTellb_30 hE hd hrc _ _ _ _ hF) (Nat.le_refl _) (by omega)
    · rw [if_neg hc] at hF
      refine Ex_go 5 (pc' := if r1 ≤ ((1 : Int32) <<< (x3 &&& 31)) then 30 else 28) (L' := [some (.ref 1000), some (.long x1), none, some (.int x3), some (.int r1), none]) (st' := []) (σ' := (S, M, O)) (rfl) ?_
      refine Ex_br (fun hc => ?_) (fun hc => ?_)
      · rw [if_pos hc] at hF
        exact Ex_mono (L := [some (.ref 1000), some (.long x1), none, some (.int x3), none, none]) (Le_s (Le_s (Le_n (Le_s (Le_n (Le_n (Le_0))))))) (X_m_canTellb_30 hE hd hrc _ _ _ _ hF) (Nat.le_refl _) (by omega)
      · rw [if_neg hc] at hF
        refine Ex_go 1 (pc' := 29) (L' := [some (.ref 1000), some (.long x1), none, some (.int x3), some (.int r1), none]) (st' := [.int (0 : Int32)]) (σ' := (S, M, O)) (rfl) ?_
        cases hF
        exact Ex_fin rfl
  · rw [if_neg hc] at hF
    refine Ex_go 1 (pc' := 13) (L' := [some (.ref 1000), some (.long x1), none, some (.int x3), some (.int r1), none]) (st' := [.int (1 : Int32)]) (σ' := (S, M, O)) (rfl) ?_
    cases hF
    exact Ex_fin rfl
def F_m_canTell : Nat → Int64 → Int32 → Sto → Option Int32
  | 0, _, _, _ => none
  | n + 1, x1, x3, M => F_m_canTellb (F_m_canTell n) x1 x3 M
set_option maxRecDepth 100000 in
theorem X_m_canTell {nL : Nat} {xs : Nat → Int32} {S : Sto} {O : Sto} : ∀ (n : Nat) {d : Nat}, 6 + 2 * n ≤ d → ∀ (x1 : Int64) (x3 : Int32) (M : Sto) (r : Int32), F_m_canTell n x1 x3 M = some r → EX nL xs 0 MI_193 d 0 [some (.ref 1000), some (.long x1), none, some (.int x3), none, none] [] (S, M, O) (.inl (some (.int r))) (S, M, O) := by
  intro n
  induction n with
  | zero => intro d hd x1 x3 M r hF; cases hF
  | succ n ih =>
  intro d hd x1 x3 M r hF
  exact X_m_canTellb (E := 6 + 2 * n) (Nat.le_add_right _ _) (by omega) (ih (Nat.le_refl _)) x1 x3 M r hF
def F_m_find_14 (M : Sto) : Option (Int32 × Sto) := b2 (F_m_fail (1 : Int32) M) (fun r1 M3 => some (r1, M3))
set_option maxRecDepth 100000 in
theorem X_m_find_14 {nL : Nat} {xs : Nat → Int32} {S : Sto} {O : Sto} {d : Nat} (hd : 32 ≤ d) : ∀ (M : Sto) (r : Int32) (M' : Sto), F_m_find_14 M = some (r, M') → EX nL xs 0 MI_194 d 14 [some (.ref 1000), none, none, none, none, none, none] [] (S, M, O) (.inl (some (.int r))) (S, M', O) := by
  intro M r M' hF
  unfold F_m_find_14 at hF
  refine Ex_go 2 (pc' := 16) (L' := [some (.ref 1000), none, none, none, none, none, none]) (st' := [.int (1 : Int32), .ref 1000]) (σ' := (S, M, O)) (rfl) ?_
  obtain ⟨r1, M3, hx2, hF⟩ := b2_i hF
  refine Ex_call (kind := 2) (y := 50) (as := [.ref 1000, .int (1 : Int32)]) (rest := []) (L0 := [some (.ref 1000), some (.int (1 : Int32))]) (d' := 1) (v := some (.int r1)) (σ1 := (S, M3, O)) rfl rfl mt_50 rfl rfl (by omega) (X_m_fail (Nat.le_refl _) _ _ _ _ hx2) (Ex_st (st2 := [.int r1]) rfl ?_)
  cases hF
  exact Ex_fin rfl
def F_m_find_92 (k40 : Int32 → Int32 → Int32 → Sto → Option (Int32 × Sto)) (k60 : Int32 → Int32 → Int32 → Int32 → Sto → Option (Int32 × Sto)) (x1 : Int32) (x2 : Int32) (x3 : Int32) (x4 : Int32) (M : Sto) : Option (Int32 × Sto) := k60 x1 x2 x3 (x4 + (1 : Int32)) M
set_option maxRecDepth 100000 in
theorem X_m_find_92 {nL : Nat} {xs : Nat → Int32} {S : Sto} {O : Sto} {d : Nat} (hd : 32 ≤ d) {k40 : Int32 → Int32 → Int32 → Sto → Option (Int32 × Sto)} {k60 : Int32 → Int32 → Int32 → Int32 → Sto → Option (Int32 × Sto)} (hk40 : ∀ (x1 : Int32) (x2 : Int32) (x3 : Int32) (M : Sto) (r : Int32) (M' : Sto), k40 x1 x2 x3 M = some (r, M') → EX nL xs 0 MI_194 d 40 [some (.ref 1000), some (.int x1), some (.int x2), some (.int x3), none, none, none] [] (S, M, O) (.inl (some (.int r))) (S, M', O)) (hk60 : ∀ (x1 : Int32) (x2 : Int32) (x3 : Int32) (x4 : Int32) (M : Sto) (r : Int32) (M' : Sto), k60 x1 x2 x3 x4 M = some (r, M') → EX nL xs 0 MI_194 d 60 [some (.ref 1000), some (.int x1), some (.int x2), some (.int x3), some (.int x4), none, none] [] (S, M, O) (.inl (some (.int r))) (S, M', O)) : ∀ (x1 : Int32) (x2 : Int32) (x3 : Int32) (x4 : Int32) (M : Sto) (r : Int32) (M' : Sto), F_m_find_92 k40 k60 x1 x2 x3 x4 M = some (r, M') → EX nL xs 0 MI_194 d 92 [some (.ref 1000), some (.int x1), some (.int x2), some (.int x3), some (.int x4), none, none] [] (S, M, O) (.inl (some (.int r))) (S, M', O) := by
  intro x1 x2 x3 x4 M r M' hF
  unfold F_m_find_92 at hF
  refine Ex_go 2 (pc' := 60) (L' := [some (.ref 1000), some (.int x1), some (.int x2), some (.int x3), some (.int (x4 + (1 : Int32))), none, none]) (st' := []) (σ' := (S, M, O)) (rfl) ?_
  exact Ex_mono (L := [some (.ref 1000), some (.int x1), some (.int x2), some (.int x3), some (.int (x4 + (1 : Int32))), none, none]) (Le_s (Le_s (Le_s (Le_s (Le_s (Le_n (Le_n (Le_0)))))))) (hk60 _ _ _ _ _ _ _ hF) (Nat.le_refl _) (by omega)
def F_m_find_60 (k40 : Int32 → Int32 → Int32 → Sto → Option (Int32 × Sto)) : Nat → Int32 → Int32 → Int32 → Int32 → Sto → Option (Int32 × Sto)
  | 0, _, _, _, _, _ => none
  | n + 1, x1, x2, x3, x4, M => if x1 < x4 then k40 x1 x2 (x3 + (1 : Int32)) M else b1 (F_m_catches x3 (Int32.toInt64 x4) M) (fun r1 => if r1 = 0 then F_m_find_92 k40 (F_m_find_60 k40 n) x1 x2 x3 x4 M else ck (ib x3 8) (ck (ib x3 8) (F_m_find_92 k40 (F_m_find_60 k40 n) x1 x2 x3 x4 (ul M 1019 (vp_updL (al M 1019) (Int32.toNatClampNeg x3) ((al M 1019 (Int32.toNatClampNeg x3)) ||| ((1 : Int64) <<< (Int32.toInt64 (x4 - (1 : Int32)) &&& 63))))))))
set_option maxRecDepth 100000 in
theorem X_m_find_60 {nL : Nat} {xs : Nat → Int32} {S : Sto} {O : Sto} {d : Nat} (hd : 32 ≤ d) {k40 : Int32 → Int32 → Int32 → Sto → Option (Int32 × Sto)} (hk40 : ∀ (x1 : Int32) (x2 : Int32) (x3 : Int32) (M : Sto) (r : Int32) (M' : Sto), k40 x1 x2 x3 M = some (r, M') → EX nL xs 0 MI_194 d 40 [some (.ref 1000), some (.int x1), some (.int x2), some (.int x3), none, none, none] [] (S, M, O) (.inl (some (.int r))) (S, M', O)) : ∀ n : Nat, ∀ (x1 : Int32) (x2 : Int32) (x3 : Int32) (x4 : Int32) (M : Sto) (r : Int32) (M' : Sto), F_m_find_60 k40 n x1 x2 x3 x4 M = some (r, M') → EX nL xs 0 MI_194 d 60 [some (.ref 1000), some (.int x1), some (.int x2), some (.int x3), some (.int x4), none, none] [] (S, M, O) (.inl (some (.int r))) (S, M', O) := by
  intro n
  induction n with
  | zero => intro x1 x2 x3 x4 M r M' hF; cases hF
  | succ n ih =>
  intro x1 x2 x3 x4 M r M' hF
  unfold F_m_find_60 at hF
  refine Ex_go 3 (pc' := if x1 < x4 then 98 else 66) (L' := [some (.ref 1000), some (.int x1), some (.int x2), some (.int x3), some (.int x4), none, none]) (st' := []) (σ' := (S, M, O)) (rfl) ?_
  refine Ex_br (fun hc => ?_) (fun hc => ?_)
  · rw [if_pos hc] at hF
    refine Ex_go 2 (pc' := 40) (L' := [some (.ref 1000), some (.int x1), some (.int x2), some (.int (x3 + (1 : Int32))), some (.int x4), none, none]) (st' := []) (σ' := (S, M, O)) (rfl) ?_
    exact Ex_mono (L := [some (.ref 1000), some (.int x1), some (.int x2), some (.int (x3 + (1 : Int32))), none, none, none]) (Le_s (Le_s (Le_s (Le_s (Le_n (Le_n (Le_n (Le_0)))))))) (hk40 _ _ _ _ _ _ hF) (Nat.le_refl _) (by omega)
  · rw [if_neg hc] at hF
    refine Ex_go 4 (pc' := 71) (L' := [some (.ref 1000), some (.int x1), some (.int x2), some (.int x3), some (.int x4), none, none]) (st' := [.long (Int32.toInt64 x4), .int x3, .ref 1000]) (σ' := (S, M, O)) (rfl) ?_
    obtain ⟨r1, hx2, hF⟩ := b1_i hF
    refine Ex_call (kind := 2) (y := 127) (as := [.ref 1000, .int x3, .long (Int32.toInt64 x4)]) (rest := []) (L0 := [some (.ref 1000), some (.int x3), some (.long (Int32.toInt64 x4)), none]) (d' := 2) (v := some (.int r1)) (σ1 := (S, M, O)) rfl rfl mt_127 rfl rfl (by omega) (X_m_catches (Nat.le_refl _) _ _ _ _ hx2) (Ex_st (st2 := [.int r1]) rfl ?_)
    refine Ex_go 1 (pc' := if r1 = 0 then 92 else 77) (L' := [some (.ref 1000), some (.int x1), some (.int x2), some (.int x3), some (.int x4), none, none]) (st' := []) (σ' := (S, M, O)) (rfl) ?_
    refine Ex_br (fun hc => ?_) (fun hc => ?_)
    · rw [if_pos hc] at hF
      exact Ex_mono (L := [some (.ref 1000), some (.int x1), some (.int x2), some (.int x3), some (.int x4), none, none]) (Le_s (Le_s (Le_s (Le_s (Le_s (Le_n (Le_n (Le_0)))))))) (X_m_find_92 hd hk40 ih _ _ _ _ _ _ _ hF) (Nat.le_refl _) (by omega)
    · rw [if_neg hc] at hF
      refine Ex_go 4 (pc' := 83) (L' := [some (.ref 1000), some (.int x1), some (.int x2), some (.int x3), some (.int x4), none, none]) (st' := [.int x3, .ref 1019, .int x3, .ref 1019]) (σ' := (S, M, O)) (rfl) ?_
      obtain ⟨hc3, hF⟩ := ck_i hF
      refine Ex_chk (b := ib x3 8) (pc' := 84) (L' := [some (.ref 1000), some (.int x1), some (.int x2), some (.int x3), some (.int x4), none, none]) (st' := [.long (al M 1019 (Int32.toNatClampNeg x3)), .int x3, .ref 1019]) (σ' := (S, M, O)) rfl hc3 ?_
      refine Ex_go 6 (pc' := 91) (L' := [some (.ref 1000), some (.int x1), some (.int x2), some (.int x3), some (.int x4), none, none]) (st' := [.long ((al M 1019 (Int32.toNatClampNeg x3)) ||| ((1 : Int64) <<< (Int32.toInt64 (x4 - (1 : Int32)) &&& 63))), .int x3, .ref 1019]) (σ' := (S, M, O)) (rfl) ?_
      obtain ⟨hc4, hF⟩ := ck_i hF
      refine Ex_chk (b := ib x3 8) (pc' := 92) (L' := [some (.ref 1000), some (.int x1), some (.int x2), some (.int x3), some (.int x4), none, none]) (st' := []) (σ' := (S, (ul M 1019 (vp_updL (al M 1019) (Int32.toNatClampNeg x3) ((al M 1019 (Int32.toNatClampNeg x3)) ||| ((1 : Int64) <<< (Int32.toInt64 (x4 - (1 : Int32)) &&& 63))))), O)) rfl hc4 ?_
      exact Ex_mono (L := [some (.ref 1000), some (.int x1), some (.int x2), some (.int x3), some (.int x4), none, none]) (Le_s (Le_s (Le_s (Le_s (Le_s (Le_n (Le_n (Le_0)))))))) (X_m_find_92 hd hk40 ih _ _ _ _ _ _ _ hF) (Nat.le_refl _) (by omega)
def F_m_find_116 (k106 : Int32 → Int32 → Int32 → Sto → Option (Int32 × Sto)) : Nat → Int32 → Int32 → Int32 → Int32 → Sto → Option (Int32 × Sto)
  | 0, _, _, _, _, _ => none
  | n + 1, x1, x2, x3, x4, M => if x1 < x4 then k106 x1 x2 (x3 + (1 : Int32)) M else b1 (F_m_netsOf (Int32.toInt64 x3) M) (fun r1 => b1 (F_m_netsOf (Int32.toInt64 x4) M) (fun r3 => if r1 = r3 then some ((-1 : Int32), M) else F_m_find_116 k106 n x1 x2 x3 (x4 + (1 : Int32)) M))
set_option maxRecDepth 100000 in
theorem X_m_find_116 {nL : Nat} {xs : Nat → Int32} {S : Sto} {O : Sto} {d : Nat} (hd : 32 ≤ d) {k106 : Int32 → Int32 → Int32 → Sto → Option (Int32 × Sto)} (hk106 : ∀ (x1 : Int32) (x2 : Int32) (x3 : Int32) (M : Sto) (r : Int32) (M' : Sto), k106 x1 x2 x3 M = some (r, M') → EX nL xs 0 MI_194 d 106 [some (.ref 1000), some (.int x1), some (.int x2), some (.int x3), none, none, none] [] (S, M, O) (.inl (some (.int r))) (S, M', O)) : ∀ n : Nat, ∀ (x1 : Int32) (x2 : Int32) (x3 : Int32) (x4 : Int32) (M : Sto) (r : Int32) (M' : Sto), F_m_find_116 k106 n x1 x2 x3 x4 M = some (r, M') → EX nL xs 0 MI_194 d 116 [some (.ref 1000), some (.int x1), some (.int x2), some (.int x3), some (.int x4), none, none] [] (S, M, O) (.inl (some (.int r))) (S, M', O) := by
  intro n
  induction n with
  | zero => intro x1 x2 x3 x4 M r M' hF; cases hF
  | succ n ih =>
  intro x1 x2 x3 x4 M r M' hF
  unfold F_m_find_116 at hF
  refine Ex_go 3 (pc' := if x1 < x4 then 146 else 122) (L' := [some (.ref 1000), some (.int x1), some (.int x2), some (.int x3), some (.int x4), none, none]) (st' := []) (σ' := (S, M, O)) (rfl) ?_
  refine Ex_br (fun hc => ?_) (fun hc => ?_)
  · rw [if_pos hc] at hF
    refine Ex_go 2 (pc' := 106) (L' := [some (.ref 1000), some (.int x1), some (.int x2), some (.int (x3 + (1 : Int32))), some (.int x4), none, none]) (st' := []) (σ' := (S, M, O)) (rfl) ?_
    exact Ex_mono (L := [some (.ref 1000), some (.int x1), some (.int x2), some (.int (x3 + (1 : Int32))), none, none, none]) (Le_s (Le_s (Le_s (Le_s (Le_n (Le_n (Le_n (Le_0)))))))) (hk106 _ _ _ _ _ _ hF) (Nat.le_refl _) (by omega)
  · rw [if_neg hc] at hF
    refine Ex_go 3 (pc' := 125) (L' := [some (.ref 1000), some (.int x1), some (.int x2), some (.int x3), some (.int x4), none, none]) (st' := [.long (Int32.toInt64 x3), .ref 1000]) (σ' := (S, M, O)) (rfl) ?_
    obtain ⟨r1, hx2, hF⟩ := b1_i hF
    refine Ex_call (kind := 2) (y := 128) (as := [.ref 1000, .long (Int32.toInt64 x3)]) (rest := []) (L0 := [some (.ref 1000), some (.long (Int32.toInt64 x3)), none, none, none]) (d' := 3) (v := some (.int r1)) (σ1 := (S, M, O)) rfl rfl mt_128 rfl rfl (by omega) (X_m_netsOf (Nat.le_refl _) _ _ _ hx2) (Ex_st (st2 := [.int r1]) rfl ?_)
    refine Ex_go 3 (pc' := 132) (L' := [some (.ref 1000), some (.int x1), some (.int x2), some (.int x3), some (.int x4), none, none]) (st' := [.long (Int32.toInt64 x4), .ref 1000, .int r1]) (σ' := (S, M, O)) (rfl) ?_
    obtain ⟨r3, hx4, hF⟩ := b1_i hF
    refine Ex_call (kind := 2) (y := 128) (as := [.ref 1000, .long (Int32.toInt64 x4)]) (rest := [.int r1]) (L0 := [some (.ref 1000), some (.long (Int32.toInt64 x4)), none, none, none]) (d' := 3) (v := some (.int r3)) (σ1 := (S, M, O)) rfl rfl mt_128 rfl rfl (by omega) (X_m_netsOf (Nat.le_refl _) _ _ _ hx4) (Ex_st (st2 := [.int r3, .int r1]) rfl ?_)
    refine Ex_go 1 (pc' := if ¬ r1 = r3 then 140 else 138) (L' := [some (.ref 1000), some (.int x1), some (.int x2), some (.int x3), some (.int x4), none, none]) (st' := []) (σ' := (S, M, O)) (rfl) ?_
    refine Ex_brN (fun hc => ?_) (fun hc => ?_)
    · rw [if_pos hc] at hF
      refine Ex_go 1 (pc' := 139) (L' := [some (.ref 1000), some (.int x1), some (.int x2), some (.int x3), some (.int x4), none, none]) (st' := [.int (-1 : Int32)]) (σ' := (S, M, O)) (rfl) ?_
      cases hF
      exact Ex_fin rfl
    · rw [if_neg hc] at hF
      refine Ex_go 2 (pc' := 116) (L' := [some (.ref 1000), some (.int x1), some (.int x2), some (.int x3), some (.int (x4 + (1 : Int32))), none, none]) (st' := []) (σ' := (S, M, O)) (rfl) ?_
      exact Ex_mono (L := [some (.ref 1000), some (.int x1), some (.int x2), some (.int x3), some (.int (x4 + (1 : Int32))), none, none]) (Le_s (Le_s (Le_s (Le_s (Le_s (Le_n (Le_n (Le_0)))))))) (ih _ _ _ _ _ _ _ hF) (Nat.le_refl _) (by omega)
def F_m_find_187 : Nat → Int64 → Int32 → Int32 → Sto → Option (Int32 × Sto)
  | 0, _, _, _, _ => none
  | n + 1, x3, x5, x6, M => if (ai M 1003 (Int32.toNatClampNeg (0 : Int32))) ≤ x6 then some ((-1 : Int32), M) else if x5 ≤ 0 then some ((-1 : Int32), M) else b1 (F_m_isFirst (F_m_canTell 12) x3 x6 x5 M) (fun r1 => if r1 = 0 then F_m_find_187 n x3 x5 (x6 + (1 : Int32)) M else some (x6, M))
set_option maxRecDepth 100000 in
theorem X_m_find_187 {nL : Nat} {xs : Nat → Int32} {S : Sto} {O : Sto} {d : Nat} (hd : 32 ≤ d) : ∀ n : Nat, ∀ (x3 : Int64) (x5 : Int32) (x6 : Int32) (M : Sto) (r : Int32) (M' : Sto), F_m_find_187 n x3 x5 x6 M = some (r, M') → EX nL xs 0 MI_194 d 187 [some (.ref 1000), none, none, some (.long x3), none, some (.int x5), some (.int x6)] [] (S, M, O) (.inl (some (.int r))) (S, M', O) := by
  intro n
  induction n with
  | zero => intro x3 x5 x6 M r M' hF; cases hF
  | succ n ih =>
  intro x3 x5 x6 M r M' hF
  unfold F_m_find_187 at hF
  refine Ex_go 4 (pc' := 194) (L' := [some (.ref 1000), none, none, some (.long x3), none, some (.int x5), some (.int x6)]) (st' := [.int (0 : Int32), .ref 1003, .int x6]) (σ' := (S, M, O)) (rfl) ?_
  refine Ex_chk (b := ib (0 : Int32) 6) (pc' := 195) (L' := [some (.ref 1000), none, none, some (.long x3), none, some (.int x5), some (.int x6)]) (st' := [.int (ai M 1003 (Int32.toNatClampNeg (0 : Int32))), .int x6]) (σ' := (S, M, O)) rfl (by decide) ?_
  refine Ex_go 1 (pc' := if (ai M 1003 (Int32.toNatClampNeg (0 : Int32))) ≤ x6 then 224 else 198) (L' := [some (.ref 1000), none, none, some (.long x3), none, some (.int x5), some (.int x6)]) (st' := []) (σ' := (S, M, O)) (rfl) ?_
  refine Ex_br (fun hc => ?_) (fun hc => ?_)
  · rw [if_pos hc] at hF
    refine Ex_go 1 (pc' := 225) (L' := [some (.ref 1000), none, none, some (.long x3), none, some (.int x5), some (.int x6)]) (st' := [.int (-1 : Int32)]) (σ' := (S, M, O)) (rfl) ?_
    cases hF
    exact Ex_fin rfl
  · rw [if_neg hc] at hF
    refine Ex_go 2 (pc' := if x5 ≤ 0 then 224 else 203) (L' := [some (.ref 1000), none, none, some (.long x3), none, some (.int x5), some (.int x6)]) (st' := []) (σ' := (S, M, O)) (rfl) ?_
    refine Ex_br (fun hc => ?_) (fun hc => ?_)
    · rw [if_pos hc] at hF
      refine Ex_go 1 (pc' := 225) (L' := [some (.ref 1000), none, none, some (.long x3), none, some (.int x5), some (.int x6)]) (st' := [.int (-1 : Int32)]) (σ' := (S, M, O)) (rfl) ?_
      cases hF
      exact Ex_fin rfl
    · rw [if_neg hc] at hF
      refine Ex_go 4 (pc' := 209) (L' := [some (.ref 1000), none, none, some (.long x3), none, some (.int x5), some (.int x6)]) (st' := [.int x5, .int x6, .long x3, .ref 1000]) (σ' := (S, M, O)) (rfl) ?_
      obtain ⟨r1, hx2, hF⟩ := b1_i hF
      refine Ex_call (kind := 2) (y := 192) (as := [.ref 1000, .long x3, .int x6, .int x5]) (rest := []) (L0 := [some (.ref 1000), some (.long x3), none, some (.int x6), some (.int x5), none, none]) (d' := 31) (v := some (.int r1)) (σ1 := (S, M, O)) rfl rfl mt_192 rfl rfl (by omega) (X_m_isFirst (E := 30) (by decide) (Nat.le_refl _) (X_m_canTell 12 (Nat.le_refl _)) _ _ _ _ _ hx2) (Ex_st (st2 := [.int r1]) rfl ?_)
      refine Ex_go 1 (pc' := if r1 = 0 then 218 else 215) (L' := [some (.ref 1000), none, none, some (.long x3), none, some (.int x5), some (.int x6)]) (st' := []) (σ' := (S, M, O)) (rfl) ?_
      refine Ex_br (fun hc => ?_) (fun hc => ?_)
      · rw [if_pos hc] at hF
        refine Ex_go 2 (pc' := 187) (L' := [some (.ref 1000), none, none, some (.long x3), none, some (.int x5), some (.int (x6 + (1 : Int32)))]) (st' := []) (σ' := (S, M, O)) (rfl) ?_
        exact Ex_mono (L := [some (.ref 1000), none, none, some (.long x3), none, some (.int x5), some (.int (x6 + (1 : Int32)))]) (Le_s (Le_n (Le_n (Le_s (Le_n (Le_s (Le_s (Le_0)))))))) (ih _ _ _ _ _ _ hF) (Nat.le_refl _) (by omega)
      · rw [if_neg hc] at hF
        refine Ex_go 1 (pc' := 217) (L' := [some (.ref 1000), none, none, some (.long x3), none, some (.int x5), some (.int x6)]) (st' := [.int x6]) (σ' := (S, M, O)) (rfl) ?_
        cases hF
        exact Ex_fin rfl
def F_m_find_161 : Nat → Int32 → Int64 → Int32 → Sto → Option (Int32 × Sto)
  | 0, _, _, _, _ => none
  | n + 1, x2, x3, x5, M => b1 (F_m_canTell 12 x3 x5 M) (fun r1 => if r1 = 0 then F_m_find_161 n x2 x3 (x5 + (1 : Int32)) M else if x2 = 0 then some (x5, M) else F_m_find_187 FU x3 x5 (0 : Int32) M)
set_option maxRecDepth 100000 in
theorem X_m_find_161 {nL : Nat} {xs : Nat → Int32} {S : Sto} {O : Sto} {d : Nat} (hd : 32 ≤ d) : ∀ n : Nat, ∀ (x2 : Int32) (x3 : Int64) (x5 : Int32) (M : Sto) (r : Int32) (M' : Sto), F_m_find_161 n x2 x3 x5 M = some (r, M') → EX nL xs 0 MI_194 d 161 [some (.ref 1000), none, some (.int x2), some (.long x3), none, some (.int x5), none] [] (S, M, O) (.inl (some (.int r))) (S, M', O) := by
  intro n
  induction n with
  | zero => intro x2 x3 x5 M r M' hF; cases hF
  | succ n ih =>
  intro x2 x3 x5 M r M' hF
  unfold F_m_find_161 at hF
  refine Ex_go 3 (pc' := 165) (L' := [some (.ref 1000), none, some (.int x2), some (.long x3), none, some (.int x5), none]) (st' := [.int x5, .long x3, .ref 1000]) (σ' := (S, M, O)) (rfl) ?_
  obtain ⟨r1, hx2, hF⟩ := b1_i hF
  refine Ex_call (kind := 2) (y := 193) (as := [.ref 1000, .long x3, .int x5]) (rest := []) (L0 := [some (.ref 1000), some (.long x3), none, some (.int x5), none, none]) (d' := 30) (v := some (.int r1)) (σ1 := (S, M, O)) rfl rfl mt_193 rfl rfl (by omega) (X_m_canTell 12 (Nat.le_refl _) _ _ _ _ hx2) (Ex_st (st2 := [.int r1]) rfl ?_)
  refine Ex_go 1 (pc' := if ¬ r1 = 0 then 177 else 171) (L' := [some (.ref 1000), none, some (.int x2), some (.long x3), none, some (.int x5), none]) (st' := []) (σ' := (S, M, O)) (rfl) ?_
  refine Ex_brN (fun hc => ?_) (fun hc => ?_)
  · rw [if_pos hc] at hF
    refine Ex_go 2 (pc' := 161) (L' := [some (.ref 1000), none, some (.int x2), some (.long x3), none, some (.int (x5 + (1 : Int32))), none]) (st' := []) (σ' := (S, M, O)) (rfl) ?_
    exact Ex_mono (L := [some (.ref 1000), none, some (.int x2), some (.long x3), none, some (.int (x5 + (1 : Int32))), none]) (Le_s (Le_n (Le_s (Le_s (Le_n (Le_s (Le_n (Le_0)))))))) (ih _ _ _ _ _ _ hF) (Nat.le_refl _) (by omega)
  · rw [if_neg hc] at hF
    refine Ex_go 2 (pc' := if ¬ x2 = 0 then 184 else 181) (L' := [some (.ref 1000), none, some (.int x2), some (.long x3), none, some (.int x5), none]) (st' := []) (σ' := (S, M, O)) (rfl) ?_
    refine Ex_brN (fun hc => ?_) (fun hc => ?_)
    · rw [if_pos hc] at hF
      refine Ex_go 1 (pc' := 183) (L' := [some (.ref 1000), none, some (.int x2), some (.long x3), none, some (.int x5), none]) (st' := [.int x5]) (σ' := (S, M, O)) (rfl) ?_
      cases hF
      exact Ex_fin rfl
    · rw [if_neg hc] at hF
      refine Ex_go 2 (pc' := 187) (L' := [some (.ref 1000), none, some (.int x2), some (.long x3), none, some (.int x5), some (.int (0 : Int32))]) (st' := []) (σ' := (S, M, O)) (rfl) ?_
      exact Ex_mono (L := [some (.ref 1000), none, none, some (.long x3), none, some (.int x5), some (.int (0 : Int32))]) (Le_s (Le_n (Le_n (Le_s (Le_n (Le_s (Le_s (Le_0)))))))) (X_m_find_187 hd FU _ _ _ _ _ _ hF) (Nat.le_refl _) (by omega)
def F_m_find_106 : Nat → Int32 → Int32 → Int32 → Sto → Option (Int32 × Sto)
  | 0, _, _, _, _ => none
  | n + 1, x1, x2, x3, M => if x1 < x3 then F_m_find_161 FU x2 (((1 : Int64) <<< (Int32.toInt64 x1 &&& 63)) - (1 : Int64)) (0 : Int32) M else F_m_find_116 (F_m_find_106 n) FU x1 x2 x3 (x3 + (1 : Int32)) M
set_option maxRecDepth 100000 in
theorem X_m_find_106 {nL : Nat} {xs : Nat → Int32} {S : Sto} {O : Sto} {d : Nat} (hd : 32 ≤ d) : ∀ n : Nat, ∀ (x1 : Int32) (x2 : Int32) (x3 : Int32) (M : Sto) (r : Int32) (M' : Sto), F_m_find_106 n x1 x2 x3 M = some (r, M') → EX nL xs 0 MI_194 d 106 [some (.ref 1000), some (.int x1), some (.int x2), some (.int x3), none, none, none] [] (S, M, O) (.inl (some (.int r))) (S, M', O) := by
  intro n
  induction n with
  | zero => intro x1 x2 x3 M r M' hF; cases hF
  | succ n ih =>
  intro x1 x2 x3 M r M' hF
  unfold F_m_find_106 at hF
  refine Ex_go 3 (pc' := if x1 < x3 then 152 else 111) (L' := [some (.ref 1000), some (.int x1), some (.int x2), some (.int x3), none, none, none]) (st' := []) (σ' := (S, M, O)) (rfl) ?_
  refine Ex_br (fun hc => ?_) (fun hc => ?_)
  · rw [if_pos hc] at hF
    refine Ex_go 8 (pc' := 161) (L' := [some (.ref 1000), some (.int x1), some (.int x2), some (.long (((1 : Int64) <<< (Int32.toInt64 x1 &&& 63)) - (1 : Int64))), none, some (.int (0 : Int32)), none]) (st' := []) (σ' := (S, M, O)) (rfl) ?_
    exact Ex_mono (L := [some (.ref 1000), none, some (.int x2), some (.long (((1 : Int64) <<< (Int32.toInt64 x1 &&& 63)) - (1 : Int64))), none, some (.int (0 : Int32)), none]) (Le_s (Le_n (Le_s (Le_s (Le_n (Le_s (Le_n (Le_0)))))))) (X_m_find_161 hd FU _ _ _ _ _ _ hF) (Nat.le_refl _) (by omega)
  · rw [if_neg hc] at hF
    refine Ex_go 4 (pc' := 116) (L' := [some (.ref 1000), some (.int x1), some (.int x2), some (.int x3), some (.int (x3 + (1 : Int32))), none, none]) (st' := []) (σ' := (S, M, O)) (rfl) ?_
    exact Ex_mono (L := [some (.ref 1000), some (.int x1), some (.int x2), some (.int x3), some (.int (x3 + (1 : Int32))), none, none]) (Le_s (Le_s (Le_s (Le_s (Le_s (Le_n (Le_n (Le_0)))))))) (X_m_find_116 hd ih FU _ _ _ _ _ _ _ hF) (Nat.le_refl _) (by omega)
def F_m_find_40 : Nat → Int32 → Int32 → Int32 → Sto → Option (Int32 × Sto)
  | 0, _, _, _, _ => none
  | n + 1, x1, x2, x3, M => if (ai M 1003 (Int32.toNatClampNeg (0 : Int32))) ≤ x3 then F_m_find_106 FU x1 x2 (1 : Int32) M else ck (ib x3 8) (F_m_find_60 (F_m_find_40 n) FU x1 x2 x3 (1 : Int32) (ul M 1019 (vp_updL (al M 1019) (Int32.toNatClampNeg x3) (0 : Int64))))
set_option maxRecDepth 100000 in
theorem X_m_find_40 {nL : Nat} {xs : Nat → Int32} {S : Sto} {O : Sto} {d : Nat} (hd : 32 ≤ d) : ∀ n : Nat, ∀ (x1 : Int32) (x2 : Int32) (x3 : Int32) (M : Sto) (r : Int32) (M' : Sto), F_m_find_40 n x1 x2 x3 M = some (r, M') → EX nL xs 0 MI_194 d 40 [some (.ref 1000), some (.int x1), some (.int x2), some (.int x3), none, none, none] [] (S, M, O) (.inl (some (.int r))) (S, M', O) := by
  intro n
  induction n with
  | zero => intro x1 x2 x3 M r M' hF; cases hF
  | succ n ih =>
  intro x1 x2 x3 M r M' hF
  unfold F_m_find_40 at hF
  refine Ex_go 4 (pc' := 46) (L' := [some (.ref 1000), some (.int x1), some (.int x2), some (.int x3), none, none, none]) (st' := [.int (0 : Int32), .ref 1003, .int x3]) (σ' := (S, M, O)) (rfl) ?_
  refine Ex_chk (b := ib (0 : Int32) 6) (pc' := 47) (L' := [some (.ref 1000), some (.int x1), some (.int x2), some (.int x3), none, none, none]) (st' := [.int (ai M 1003 (Int32.toNatClampNeg (0 : Int32))), .int x3]) (σ' := (S, M, O)) rfl (by decide) ?_
  refine Ex_go 1 (pc' := if (ai M 1003 (Int32.toNatClampNeg (0 : Int32))) ≤ x3 then 104 else 50) (L' := [some (.ref 1000), some (.int x1), some (.int x2), some (.int x3), none, none, none]) (st' := []) (σ' := (S, M, O)) (rfl) ?_
  refine Ex_br (fun hc => ?_) (fun hc => ?_)
  · rw [if_pos hc] at hF
    refine Ex_go 2 (pc' := 106) (L' := [some (.ref 1000), some (.int x1), some (.int x2), some (.int (1 : Int32)), none, none, none]) (st' := []) (σ' := (S, M, O)) (rfl) ?_
    exact Ex_mono (L := [some (.ref 1000), some (.int x1), some (.int x2), some (.int (1 : Int32)), none, none, none]) (Le_s (Le_s (Le_s (Le_s (Le_n (Le_n (Le_n (Le_0)))))))) (X_m_find_106 hd FU _ _ _ _ _ _ hF) (Nat.le_refl _) (by omega)
  · rw [if_neg hc] at hF
    refine Ex_go 4 (pc' := 56) (L' := [some (.ref 1000), some (.int x1), some (.int x2), some (.int x3), none, none, none]) (st' := [.long (0 : Int64), .int x3, .ref 1019]) (σ' := (S, M, O)) (rfl) ?_
    obtain ⟨hc1, hF⟩ := ck_i hF
    refine Ex_chk (b := ib x3 8) (pc' := 57) (L' := [some (.ref 1000), some (.int x1), some (.int x2), some (.int x3), none, none, none]) (st' := []) (σ' := (S, (ul M 1019 (vp_updL (al M 1019) (Int32.toNatClampNeg x3) (0 : Int64))), O)) rfl hc1 ?_
    refine Ex_go 2 (pc' := 60) (L' := [some (.ref 1000), some (.int x1), some (.int x2), some (.int x3), some (.int (1 : Int32)), none, none]) (st' := []) (σ' := (S, (ul M 1019 (vp_updL (al M 1019) (Int32.toNatClampNeg x3) (0 : Int64))), O)) (rfl) ?_
    exact Ex_mono (L := [some (.ref 1000), some (.int x1), some (.int x2), some (.int x3), some (.int (1 : Int32)), none, none]) (Le_s (Le_s (Le_s (Le_s (Le_s (Le_n (Le_n (Le_0)))))))) (X_m_find_60 hd ih FU _ _ _ _ _ _ _ hF) (Nat.le_refl _) (by omega)
def F_m_find (x1 : Int32) (x2 : Int32) (M : Sto) : Option (Int32 × Sto) := if x2 < 0 then F_m_find_14 (si M 1001 (0 : Int32)) else if x2 ≤ (1 : Int32) then b1 (F_m_isIn (Int32.toInt64 x1) (1 : Int64) (60 : Int64)) (fun r1 => if r1 = 0 then b2 (F_m_fail (2 : Int32) (si M 1001 (0 : Int32))) (fun r3 M5 => some (r3, M5)) else F_m_find_40 FU x1 x2 (0 : Int32) (si M 1001 (0 : Int32))) else F_m_find_14 (si M 1001 (0 : Int32))
set_option maxRecDepth 100000 in
theorem X_m_find {nL : Nat} {xs : Nat → Int32} {S : Sto} {O : Sto} {d : Nat} (hd : 32 ≤ d) : ∀ (x1 : Int32) (x2 : Int32) (M : Sto) (r : Int32) (M' : Sto), F_m_find x1 x2 M = some (r, M') → EX nL xs 0 MI_194 d 0 [some (.ref 1000), some (.int x1), some (.int x2), none, none, none, none] [] (S, M, O) (.inl (some (.int r))) (S, M', O) := by
  intro x1 x2 M r M' hF
  unfold F_m_find at hF
  refine Ex_go 5 (pc' := if x2 < 0 then 14 else 9) (L' := [some (.ref 1000), some (.int x1), some (.int x2), none, none, none, none]) (st' := []) (σ' := (S, (si M 1001 (0 : Int32)), O)) (rfl) ?_
  refine Ex_br (fun hc => ?_) (fun hc => ?_)
  · rw [if_pos hc] at hF
    exact Ex_mono (L := [some (.ref 1000), none, none, none, none, none, none]) (Le_s (Le_n (Le_n (Le_n (Le_n (Le_n (Le_n (Le_0)))))))) (X_m_find_14 hd _ _ _ hF) (Nat.le_refl _) (by omega)
  · rw [if_neg hc] at hF
    refine Ex_go 3 (pc' := if x2 ≤ (1 : Int32) then 20 else 14) (L' := [some (.ref 1000), some (.int x1), some (.int x2), none, none, none, none]) (st' := []) (σ' := (S, (si M 1001 (0 : Int32)), O)) (rfl) ?_
    refine Ex_br (fun hc => ?_) (fun hc => ?_)
    · rw [if_pos hc] at hF
      refine Ex_go 4 (pc' := 26) (L' := [some (.ref 1000), some (.int x1), some (.int x2), none, none, none, none]) (st' := [.long (60 : Int64), .long (1 : Int64), .long (Int32.toInt64 x1)]) (σ' := (S, (si M 1001 (0 : Int32)), O)) (rfl) ?_
      obtain ⟨r1, hx2, hF⟩ := b1_i hF
      refine Ex_call (kind := 0) (y := 91) (as := [.long (Int32.toInt64 x1), .long (1 : Int64), .long (60 : Int64)]) (rest := []) (L0 := [some (.long (Int32.toInt64 x1)), none, some (.long (1 : Int64)), none, some (.long (60 : Int64)), none]) (d' := 1) (v := some (.int r1)) (σ1 := (S, (si M 1001 (0 : Int32)), O)) rfl rfl mt_91 rfl rfl (by omega) (X_m_isIn (Nat.le_refl _) _ _ _ _ hx2) (Ex_st (st2 := [.int r1]) rfl ?_)
      refine Ex_go 1 (pc' := if ¬ r1 = 0 then 38 else 32) (L' := [some (.ref 1000), some (.int x1), some (.int x2), none, none, none, none]) (st' := []) (σ' := (S, (si M 1001 (0 : Int32)), O)) (rfl) ?_
      refine Ex_brN (fun hc => ?_) (fun hc => ?_)
      · rw [if_pos hc] at hF
        refine Ex_go 2 (pc' := 34) (L' := [some (.ref 1000), some (.int x1), some (.int x2), none, none, none, none]) (st' := [.int (2 : Int32), .ref 1000]) (σ' := (S, (si M 1001 (0 : Int32)), O)) (rfl) ?_
        obtain ⟨r3, M5, hx4, hF⟩ := b2_i hF
        refine Ex_call (kind := 2) (y := 50) (as := [.ref 1000, .int (2 : Int32)]) (rest := []) (L0 := [some (.ref 1000), some (.int (2 : Int32))]) (d' := 1) (v := some (.int r3)) (σ1 := (S, M5, O)) rfl rfl mt_50 rfl rfl (by omega) (X_m_fail (Nat.le_refl _) _ _ _ _ hx4) (Ex_st (st2 := [.int r3]) rfl ?_)
        cases hF
        exact Ex_fin rfl
      · rw [if_neg hc] at hF
        refine Ex_go 2 (pc' := 40) (L' := [some (.ref 1000), some (.int x1), some (.int x2), some (.int (0 : Int32)), none, none, none]) (st' := []) (σ' := (S, (si M 1001 (0 : Int32)), O)) (rfl) ?_
        exact Ex_mono (L := [some (.ref 1000), some (.int x1), some (.int x2), some (.int (0 : Int32)), none, none, none]) (Le_s (Le_s (Le_s (Le_s (Le_n (Le_n (Le_n (Le_0)))))))) (X_m_find_40 hd FU _ _ _ _ _ _ hF) (Nat.le_refl _) (by omega)
    · rw [if_neg hc] at hF
      exact Ex_mono (L := [some (.ref 1000), none, none, none, none, none, none]) (Le_s (Le_n (Le_n (Le_n (Le_n (Le_n (Le_n (Le_0)))))))) (X_m_find_14 hd _ _ _ hF) (Nat.le_refl _) (by omega)
def F_Sc_serves_38 (k2 : Int32 → Int32 → Int32 → Sto → Option Int32) (x1 : Int32) (x2 : Int32) (x3 : Int32) (s0 : Int32) (S : Sto) : Option Int32 := ck (ib x3 12) (if s0 = (ai S 32 (Int32.toNatClampNeg x3)) then k2 x1 x2 (x3 + (1 : Int32)) S else some (0 : Int32))
set_option maxRecDepth 100000 in
theorem X_Sc_serves_38 {nL : Nat} {xs : Nat → Int32} {M : Sto} {O : Sto} {d : Nat} (hd : 2 ≤ d) {k2 : Int32 → Int32 → Int32 → Sto → Option Int32} (hk2 : ∀ (x1 : Int32) (x2 : Int32) (x3 : Int32) (S : Sto) (r : Int32), k2 x1 x2 x3 S = some r → EX nL xs 0 MI_180 d 2 [some (.ref 27), some (.int x1), some (.int x2), some (.int x3)] [] (S, M, O) (.inl (some (.int r))) (S, M, O)) : ∀ (x1 : Int32) (x2 : Int32) (x3 : Int32) (s0 : Int32) (S : Sto) (r : Int32), F_Sc_serves_38 k2 x1 x2 x3 s0 S = some r → EX nL xs 0 MI_180 d 38 [some (.ref 27), some (.int x1), some (.int x2), some (.int x3)] [.int s0] (S, M, O) (.inl (some (.int r))) (S, M, O) := by
  intro x1 x2 x3 s0 S r hF
  unfold F_Sc_serves_38 at hF
  refine Ex_go 3 (pc' := 43) (L' := [some (.ref 27), some (.int x1), some (.int x2), some (.int x3)]) (st' := [.int x3, .ref 32, .int s0]) (σ' := (S, M, O)) (rfl) ?_
  obtain ⟨hc1, hF⟩ := ck_i hF
  refine Ex_chk (b := ib x3 12) (pc' := 44) (L' := [some (.ref 27), some (.int x1), some (.int x2), some (.int x3)]) (st' := [.int (ai S 32 (Int32.toNatClampNeg x3)), .int s0]) (σ' := (S, M, O)) rfl hc1 ?_
  refine Ex_go 1 (pc' := if s0 = (ai S 32 (Int32.toNatClampNeg x3)) then 49 else 47) (L' := [some (.ref 27), some (.int x1), some (.int x2), some (.int x3)]) (st' := []) (σ' := (S, M, O)) (rfl) ?_
  refine Ex_br (fun hc => ?_) (fun hc => ?_)
  · rw [if_pos hc] at hF
    refine Ex_go 2 (pc' := 2) (L' := [some (.ref 27), some (.int x1), some (.int x2), some (.int (x3 + (1 : Int32)))]) (st' := []) (σ' := (S, M, O)) (rfl) ?_
    exact Ex_mono (L := [some (.ref 27), some (.int x1), some (.int x2), some (.int (x3 + (1 : Int32)))]) (Le_s (Le_s (Le_s (Le_s (Le_0))))) (hk2 _ _ _ _ _ hF) (Nat.le_refl _) (by omega)
  · rw [if_neg hc] at hF
    refine Ex_go 1 (pc' := 48) (L' := [some (.ref 27), some (.int x1), some (.int x2), some (.int x3)]) (st' := [.int (0 : Int32)]) (σ' := (S, M, O)) (rfl) ?_
    cases hF
    exact Ex_fin rfl
def F_Sc_serves_2 : Nat → Int32 → Int32 → Int32 → Sto → Option Int32
  | 0, _, _, _, _ => none
  | n + 1, x1, x2, x3, S => if (gi S 32) ≤ x3 then some (1 : Int32) else if (12 : Int32) ≤ x3 then some (1 : Int32) else ck (ib x3 12) (b1 (F_w_remainder (al S 31 (Int32.toNatClampNeg x3)) (Int32.toInt64 x1)) (fun r2 => if r2 = (Int32.toInt64 x2) then F_Sc_serves_38 (F_Sc_serves_2 n) x1 x2 x3 (1 : Int32) S else F_Sc_serves_38 (F_Sc_serves_2 n) x1 x2 x3 (0 : Int32) S))
set_option maxRecDepth 100000 in
theorem X_Sc_serves_2 {nL : Nat} {xs : Nat → Int32} {M : Sto} {O : Sto} {d : Nat} (hd : 2 ≤ d) : ∀ n : Nat, ∀ (x1 : Int32) (x2 : Int32) (x3 : Int32) (S : Sto) (r : Int32), F_Sc_serves_2 n x1 x2 x3 S = some r → EX nL xs 0 MI_180 d 2 [some (.ref 27), some (.int x1), some (.int x2), some (.int x3)] [] (S, M, O) (.inl (some (.int r))) (S, M, O) := by
  intro n
  induction n with
  | zero => intro x1 x2 x3 S r hF; cases hF
  | succ n ih =>
  intro x1 x2 x3 S r hF
  unfold F_Sc_serves_2 at hF
  refine Ex_go 4 (pc' := if (gi S 32) ≤ x3 then 55 else 10) (L' := [some (.ref 27), some (.int x1), some (.int x2), some (.int x3)]) (st' := []) (σ' := (S, M, O)) (rfl) ?_
  refine Ex_br (fun hc => ?_) (fun hc => ?_)
  · rw [if_pos hc] at hF
    refine Ex_go 1 (pc' := 56) (L' := [some (.ref 27), some (.int x1), some (.int x2), some (.int x3)]) (st' := [.int (1 : Int32)]) (σ' := (S, M, O)) (rfl) ?_
    cases hF
    exact Ex_fin rfl
  · rw [if_neg hc] at hF
    refine Ex_go 3 (pc' := if (12 : Int32) ≤ x3 then 55 else 16) (L' := [some (.ref 27), some (.int x1), some (.int x2), some (.int x3)]) (st' := []) (σ' := (S, M, O)) (rfl) ?_
    refine Ex_br (fun hc => ?_) (fun hc => ?_)
    · rw [if_pos hc] at hF
      refine Ex_go 1 (pc' := 56) (L' := [some (.ref 27), some (.int x1), some (.int x2), some (.int x3)]) (st' := [.int (1 : Int32)]) (σ' := (S, M, O)) (rfl) ?_
      cases hF
      exact Ex_fin rfl
    · rw [if_neg hc] at hF
      refine Ex_go 3 (pc' := 21) (L' := [some (.ref 27), some (.int x1), some (.int x2), some (.int x3)]) (st' := [.int x3, .ref 31]) (σ' := (S, M, O)) (rfl) ?_
      obtain ⟨hc1, hF⟩ := ck_i hF
      refine Ex_chk (b := ib x3 12) (pc' := 22) (L' := [some (.ref 27), some (.int x1), some (.int x2), some (.int x3)]) (st' := [.long (al S 31 (Int32.toNatClampNeg x3))]) (σ' := (S, M, O)) rfl hc1 ?_
      refine Ex_go 2 (pc' := 24) (L' := [some (.ref 27), some (.int x1), some (.int x2), some (.int x3)]) (st' := [.long (Int32.toInt64 x1), .long (al S 31 (Int32.toNatClampNeg x3))]) (σ' := (S, M, O)) (rfl) ?_
      obtain ⟨r2, hx3, hF⟩ := b1_i hF
      refine Ex_call (kind := 1) (y := 41) (as := [.long (al S 31 (Int32.toNatClampNeg x3)), .long (Int32.toInt64 x1)]) (rest := []) (L0 := [some (.long (al S 31 (Int32.toNatClampNeg x3))), none, some (.long (Int32.toInt64 x1)), none]) (d' := 1) (v := some (.long r2)) (σ1 := (S, M, O)) rfl rfl mt_41 rfl rfl (by omega) (X_w_remainder (Nat.le_refl _) _ _ _ hx3) (Ex_st (st2 := [.long r2]) rfl ?_)
      refine Ex_go 4 (pc' := if ¬ (lg_cmp r2 (Int32.toInt64 x2)) = 0 then 37 else 33) (L' := [some (.ref 27), some (.int x1), some (.int x2), some (.int x3)]) (st' := []) (σ' := (S, M, O)) (rfl) ?_
      refine Ex_brNI lc_ne (fun hc => ?_) (fun hc => ?_)
      · rw [if_pos hc] at hF
        refine Ex_go 2 (pc' := 38) (L' := [some (.ref 27), some (.int x1), some (.int x2), some (.int x3)]) (st' := [.int (1 : Int32)]) (σ' := (S, M, O)) (rfl) ?_
        exact Ex_mono (L := [some (.ref 27), some (.int x1), some (.int x2), some (.int x3)]) (Le_s (Le_s (Le_s (Le_s (Le_0))))) (X_Sc_serves_38 hd ih _ _ _ _ _ _ hF) (Nat.le_refl _) (by omega)
      · rw [if_neg hc] at hF
        refine Ex_go 1 (pc' := 38) (L' := [some (.ref 27), some (.int x1), some (.int x2), some (.int x3)]) (st' := [.int (0 : Int32)]) (σ' := (S, M, O)) (rfl) ?_
        exact Ex_mono (L := [some (.ref 27), some (.int x1), some (.int x2), some (.int x3)]) (Le_s (Le_s (Le_s (Le_s (Le_0))))) (X_Sc_serves_38 hd ih _ _ _ _ _ _ hF) (Nat.le_refl _) (by omega)
def F_Sc_serves (x1 : Int32) (x2 : Int32) (S : Sto) : Option Int32 := F_Sc_serves_2 FU x1 x2 (0 : Int32) S
set_option maxRecDepth 100000 in
theorem X_Sc_serves {nL : Nat} {xs : Nat → Int32} {M : Sto} {O : Sto} {d : Nat} (hd : 2 ≤ d) : ∀ (x1 : Int32) (x2 : Int32) (S : Sto) (r : Int32), F_Sc_serves x1 x2 S = some r → EX nL xs 0 MI_180 d 0 [some (.ref 27), some (.int x1), some (.int x2), none] [] (S, M, O) (.inl (some (.int r))) (S, M, O) := by
  intro x1 x2 S r hF
  unfold F_Sc_serves at hF
  refine Ex_go 2 (pc' := 2) (L' := [some (.ref 27), some (.int x1), some (.int x2), some (.int (0 : Int32))]) (st' := []) (σ' := (S, M, O)) (rfl) ?_
  exact Ex_mono (L := [some (.ref 27), some (.int x1), some (.int x2), some (.int (0 : Int32))]) (Le_s (Le_s (Le_s (Le_s (Le_0))))) (X_Sc_serves_2 hd FU _ _ _ _ _ hF) (Nat.le_refl _) (by omega)
def F_Sc_restThatServes_61 : Nat → Int32 → Int32 → Sto → Option Int32
  | 0, _, _, _ => none
  | n + 1, x1, x2, S => if x1 ≤ x2 then some (-1 : Int32) else b1 (F_Sc_serves x1 x2 S) (fun r1 => if r1 = 0 then F_Sc_restThatServes_61 n x1 (x2 + (1 : Int32)) S else some x2)
set_option maxRecDepth 100000 in
theorem X_Sc_restThatServes_61 {nL : Nat} {xs : Nat → Int32} {M : Sto} {O : Sto} {d : Nat} (hd : 3 ≤ d) : ∀ n : Nat, ∀ (x1 : Int32) (x2 : Int32) (S : Sto) (r : Int32), F_Sc_restThatServes_61 n x1 x2 S = some r → EX nL xs 0 MI_181 d 61 [some (.ref 27), some (.int x1), some (.int x2), none] [] (S, M, O) (.inl (some (.int r))) (S, M, O) := by
  intro n
  induction n with
  | zero => intro x1 x2 S r hF; cases hF
  | succ n ih =>
  intro x1 x2 S r hF
  unfold F_Sc_restThatServes_61 at hF
  refine Ex_go 3 (pc' := if x1 ≤ x2 then 83 else 66) (L' := [some (.ref 27), some (.int x1), some (.int x2), none]) (st' := []) (σ' := (S, M, O)) (rfl) ?_
  refine Ex_br (fun hc => ?_) (fun hc => ?_)
  · rw [if_pos hc] at hF
    refine Ex_go 1 (pc' := 84) (L' := [some (.ref 27), some (.int x1), some (.int x2), none]) (st' := [.int (-1 : Int32)]) (σ' := (S, M, O)) (rfl) ?_
    cases hF
    exact Ex_fin rfl
  · rw [if_neg hc] at hF
    refine Ex_go 3 (pc' := 69) (L' := [some (.ref 27), some (.int x1), some (.int x2), none]) (st' := [.int x2, .int x1, .ref 27]) (σ' := (S, M, O)) (rfl) ?_
    obtain ⟨r1, hx2, hF⟩ := b1_i hF
    refine Ex_call (kind := 2) (y := 180) (as := [.ref 27, .int x1, .int x2]) (rest := []) (L0 := [some (.ref 27), some (.int x1), some (.int x2), none]) (d' := 2) (v := some (.int r1)) (σ1 := (S, M, O)) rfl rfl mt_180 rfl rfl (by omega) (X_Sc_serves (Nat.le_refl _) _ _ _ _ hx2) (Ex_st (st2 := [.int r1]) rfl ?_)
    refine Ex_go 1 (pc' := if r1 = 0 then 77 else 75) (L' := [some (.ref 27), some (.int x1), some (.int x2), none]) (st' := []) (σ' := (S, M, O)) (rfl) ?_
    refine Ex_br (fun hc => ?_) (fun hc => ?_)
    · rw [if_pos hc] at hF
      refine Ex_go 2 (pc' := 61) (L' := [some (.ref 27), some (.int x1), some (.int (x2 + (1 : Int32))), none]) (st' := []) (σ' := (S, M, O)) (rfl) ?_
      exact Ex_mono (L := [some (.ref 27), some (.int x1), some (.int (x2 + (1 : Int32))), none]) (Le_s (Le_s (Le_s (Le_n (Le_0))))) (ih _ _ _ _ hF) (Nat.le_refl _) (by omega)
    · rw [if_neg hc] at hF
      refine Ex_go 1 (pc' := 76) (L' := [some (.ref 27), some (.int x1), some (.int x2), none]) (st' := [.int x2]) (σ' := (S, M, O)) (rfl) ?_
      cases hF
      exact Ex_fin rfl
def F_Sc_restThatServes_59 (x1 : Int32) (S : Sto) : Option Int32 := F_Sc_restThatServes_61 FU x1 (0 : Int32) S
set_option maxRecDepth 100000 in
theorem X_Sc_restThatServes_59 {nL : Nat} {xs : Nat → Int32} {M : Sto} {O : Sto} {d : Nat} (hd : 3 ≤ d) : ∀ (x1 : Int32) (S : Sto) (r : Int32), F_Sc_restThatServes_59 x1 S = some r → EX nL xs 0 MI_181 d 59 [some (.ref 27), some (.int x1), none, none] [] (S, M, O) (.inl (some (.int r))) (S, M, O) := by
  intro x1 S r hF
  unfold F_Sc_restThatServes_59 at hF
  refine Ex_go 2 (pc' := 61) (L' := [some (.ref 27), some (.int x1), some (.int (0 : Int32)), none]) (st' := []) (σ' := (S, M, O)) (rfl) ?_
  exact Ex_mono (L := [some (.ref 27), some (.int x1), some (.int (0 : Int32)), none]) (Le_s (Le_s (Le_s (Le_n (Le_0))))) (X_Sc_restThatServes_61 hd FU _ _ _ _ hF) (Nat.le_refl _) (by omega)
def F_Sc_restThatServes_2 : Nat → Int32 → Int32 → Sto → Option Int32
  | 0, _, _, _ => none
  | n + 1, x1, x2, S => if (gi S 32) ≤ x2 then F_Sc_restThatServes_59 x1 S else if (12 : Int32) ≤ x2 then F_Sc_restThatServes_59 x1 S else ck (ib x2 12) (if (ai S 32 (Int32.toNatClampNeg x2)) = 0 then F_Sc_restThatServes_2 n x1 (x2 + (1 : Int32)) S else ck (ib x2 12) (b1 (F_w_remainder (al S 31 (Int32.toNatClampNeg x2)) (Int32.toInt64 x1)) (fun r3 => b1 (F_Sc_serves x1 (Int64.toInt32 r3) S) (fun r5 => if r5 = 0 then some (-1 : Int32) else some (Int64.toInt32 r3)))))
set_option maxRecDepth 100000 in
theorem X_Sc_restThatServes_2 {nL : Nat} {xs : Nat → Int32} {M : Sto} {O : Sto} {d : Nat} (hd : 3 ≤ d) : ∀ n : Nat, ∀ (x1 : Int32) (x2 : Int32) (S : Sto) (r : Int32), F_Sc_restThatServes_2 n x1 x2 S = some r → EX nL xs 0 MI_181 d 2 [some (.ref 27), some (.int x1), some (.int x2), none] [] (S, M, O) (.inl (some (.int r))) (S, M, O) := by
  intro n
  induction n with
  | zero => intro x1 x2 S r hF; cases hF
  | succ n ih =>
  intro x1 x2 S r hF
  unfold F_Sc_restThatServes_2 at hF
  refine Ex_go 4 (pc' := if (gi S 32) ≤ x2 then 59 else 10) (L' := [some (.ref 27), some (.int x1), some (.int x2), none]) (st' := []) (σ' := (S, M, O)) (rfl) ?_
  refine Ex_br (fun hc => ?_) (fun hc => ?_)
  · rw [if_pos hc] at hF
    exact Ex_mono (L := [some (.ref 27), some (.int x1), none, none]) (Le_s (Le_s (Le_n (Le_n (Le_0))))) (X_Sc_restThatServes_59 hd _ _ _ hF) (Nat.le_refl _) (by omega)
  · rw [if_neg hc] at hF
    refine Ex_go 3 (pc' := if (12 : Int32) ≤ x2 then 59 else 16) (L' := [some (.ref 27), some (.int x1), some (.int x2), none]) (st' := []) (σ' := (S, M, O)) (rfl) ?_
    refine Ex_br (fun hc => ?_) (fun hc => ?_)
    · rw [if_pos hc] at hF
      exact Ex_mono (L := [some (.ref 27), some (.int x1), none, none]) (Le_s (Le_s (Le_n (Le_n (Le_0))))) (X_Sc_restThatServes_59 hd _ _ _ hF) (Nat.le_refl _) (by omega)
    · rw [if_neg hc] at hF
      refine Ex_go 3 (pc' := 21) (L' := [some (.ref 27), some (.int x1), some (.int x2), none]) (st' := [.int x2, .ref 32]) (σ' := (S, M, O)) (rfl) ?_
      obtain ⟨hc1, hF⟩ := ck_i hF
      refine Ex_chk (b := ib x2 12) (pc' := 22) (L' := [some (.ref 27), some (.int x1), some (.int x2), none]) (st' := [.int (ai S 32 (Int32.toNatClampNeg x2))]) (σ' := (S, M, O)) rfl hc1 ?_
      refine Ex_go 1 (pc' := if (ai S 32 (Int32.toNatClampNeg x2)) = 0 then 53 else 25) (L' := [some (.ref 27), some (.int x1), some (.int x2), none]) (st' := []) (σ' := (S, M, O)) (rfl) ?_
      refine Ex_br (fun hc => ?_) (fun hc => ?_)
      · rw [if_pos hc] at hF
        refine Ex_go 2 (pc' := 2) (L' := [some (.ref 27), some (.int x1), some (.int (x2 + (1 : Int32))), none]) (st' := []) (σ' := (S, M, O)) (rfl) ?_
        exact Ex_mono (L := [some (.ref 27), some (.int x1), some (.int (x2 + (1 : Int32))), none]) (Le_s (Le_s (Le_s (Le_n (Le_0))))) (ih _ _ _ _ hF) (Nat.le_refl _) (by omega)
      · rw [if_neg hc] at hF
        refine Ex_go 3 (pc' := 30) (L' := [some (.ref 27), some (.int x1), some (.int x2), none]) (st' := [.int x2, .ref 31]) (σ' := (S, M, O)) (rfl) ?_
        obtain ⟨hc2, hF⟩ := ck_i hF
        refine Ex_chk (b := ib x2 12) (pc' := 31) (L' := [some (.ref 27), some (.int x1), some (.int x2), none]) (st' := [.long (al S 31 (Int32.toNatClampNeg x2))]) (σ' := (S, M, O)) rfl hc2 ?_
        refine Ex_go 2 (pc' := 33) (L' := [some (.ref 27), some (.int x1), some (.int x2), none]) (st' := [.long (Int32.toInt64 x1), .long (al S 31 (Int32.toNatClampNeg x2))]) (σ' := (S, M, O)) (rfl) ?_
        obtain ⟨r3, hx4, hF⟩ := b1_i hF
        refine Ex_call (kind := 1) (y := 41) (as := [.long (al S 31 (Int32.toNatClampNeg x2)), .long (Int32.toInt64 x1)]) (rest := []) (L0 := [some (.long (al S 31 (Int32.toNatClampNeg x2))), none, some (.long (Int32.toInt64 x1)), none]) (d' := 1) (v := some (.long r3)) (σ1 := (S, M, O)) rfl rfl mt_41 rfl rfl (by omega) (X_w_remainder (Nat.le_refl _) _ _ _ hx4) (Ex_st (st2 := [.long r3]) rfl ?_)
        refine Ex_go 5 (pc' := 41) (L' := [some (.ref 27), some (.int x1), some (.int x2), some (.int (Int64.toInt32 r3))]) (st' := [.int (Int64.toInt32 r3), .int x1, .ref 27]) (σ' := (S, M, O)) (rfl) ?_
        obtain ⟨r5, hx6, hF⟩ := b1_i hF
        refine Ex_call (kind := 2) (y := 180) (as := [.ref 27, .int x1, .int (Int64.toInt32 r3)]) (rest := []) (L0 := [some (.ref 27), some (.int x1), some (.int (Int64.toInt32 r3)), none]) (d' := 2) (v := some (.int r5)) (σ1 := (S, M, O)) rfl rfl mt_180 rfl rfl (by omega) (X_Sc_serves (Nat.le_refl _) _ _ _ _ hx6) (Ex_st (st2 := [.int r5]) rfl ?_)
        refine Ex_go 1 (pc' := if r5 = 0 then 51 else 47) (L' := [some (.ref 27), some (.int x1), some (.int x2), some (.int (Int64.toInt32 r3))]) (st' := []) (σ' := (S, M, O)) (rfl) ?_
        refine Ex_br (fun hc => ?_) (fun hc => ?_)
        · rw [if_pos hc] at hF
          refine Ex_go 1 (pc' := 52) (L' := [some (.ref 27), some (.int x1), some (.int x2), some (.int (Int64.toInt32 r3))]) (st' := [.int (-1 : Int32)]) (σ' := (S, M, O)) (rfl) ?_
          cases hF
          exact Ex_fin rfl
        · rw [if_neg hc] at hF
          refine Ex_go 2 (pc' := 52) (L' := [some (.ref 27), some (.int x1), some (.int x2), some (.int (Int64.toInt32 r3))]) (st' := [.int (Int64.toInt32 r3)]) (σ' := (S, M, O)) (rfl) ?_
          cases hF
          exact Ex_fin rfl
def F_Sc_restThatServes (x1 : Int32) (S : Sto) : Option Int32 := F_Sc_restThatServes_2 FU x1 (0 : Int32) S
set_option maxRecDepth 100000 in
theorem X_Sc_restThatServes {nL : Nat} {xs : Nat → Int32} {M : Sto} {O : Sto} {d : Nat} (hd : 3 ≤ d) : ∀ (x1 : Int32) (S : Sto) (r : Int32), F_Sc_restThatServes x1 S = some r → EX nL xs 0 MI_181 d 0 [some (.ref 27), some (.int x1), none, none] [] (S, M, O) (.inl (some (.int r))) (S, M, O) := by
  intro x1 S r hF
  unfold F_Sc_restThatServes at hF
  refine Ex_go 2 (pc' := 2) (L' := [some (.ref 27), some (.int x1), some (.int (0 : Int32)), none]) (st' := []) (σ' := (S, M, O)) (rfl) ?_
  exact Ex_mono (L := [some (.ref 27), some (.int x1), some (.int (0 : Int32)), none]) (Le_s (Le_s (Le_s (Le_n (Le_0))))) (X_Sc_restThatServes_2 hd FU _ _ _ _ hF) (Nat.le_refl _) (by omega)
def F_w_mesh_12 (S : Sto) : Option (Int32 ⊕ Nat) := some (.inr 0)
set_option maxRecDepth 100000 in
theorem X_w_mesh_12 {nL : Nat} {xs : Nat → Int32} {M : Sto} {O : Sto} {d : Nat} (hd : 8 ≤ d) : ∀ (S : Sto) (r : Int32 ⊕ Nat), F_w_mesh_12 S = some r → EX nL xs 1 MI_182 d 12 [none, none, none, none] [] (S, M, O) (rsI r) (S, M, O) := by
  intro S r hF
  unfold F_w_mesh_12 at hF
  cases hF
  exact Ex_thr rfl (by omega) (Nat.le_refl _)
def F_w_mesh_22 : Nat → Int32 → Int32 → Sto → Option (Int32 ⊕ Nat)
  | 0, _, _, _ => none
  | n + 1, x1, x2, S => if x1 < x2 then some (.inl (-1 : Int32)) else b1 (F_Sc_restThatServes x2 S) (fun r1 => if r1 = (-1 : Int32) then F_w_mesh_22 n x1 (x2 + (1 : Int32)) S else some (.inl (((1000 : Int32) * x2) + r1)))
set_option maxRecDepth 100000 in
theorem X_w_mesh_22 {nL : Nat} {xs : Nat → Int32} {M : Sto} {O : Sto} {d : Nat} (hd : 8 ≤ d) : ∀ n : Nat, ∀ (x1 : Int32) (x2 : Int32) (S : Sto) (r : Int32 ⊕ Nat), F_w_mesh_22 n x1 x2 S = some r → EX nL xs 1 MI_182 d 22 [some (.ref 0), some (.int x1), some (.int x2), none] [] (S, M, O) (rsI r) (S, M, O) := by
  intro n
  induction n with
  | zero => intro x1 x2 S r hF; cases hF
  | succ n ih =>
  intro x1 x2 S r hF
  unfold F_w_mesh_22 at hF
  refine Ex_go 3 (pc' := if x1 < x2 then 55 else 27) (L' := [some (.ref 0), some (.int x1), some (.int x2), none]) (st' := []) (σ' := (S, M, O)) (rfl) ?_
  refine Ex_br (fun hc => ?_) (fun hc => ?_)
  · rw [if_pos hc] at hF
    refine Ex_go 1 (pc' := 56) (L' := [some (.ref 0), some (.int x1), some (.int x2), none]) (st' := [.int (-1 : Int32)]) (σ' := (S, M, O)) (rfl) ?_
    cases hF
    exact Ex_fin rfl
  · rw [if_neg hc] at hF
    refine Ex_go 3 (pc' := 32) (L' := [some (.ref 0), some (.int x1), some (.int x2), none]) (st' := [.int x2, .ref 27]) (σ' := (S, M, O)) (rfl) ?_
    obtain ⟨r1, hx2, hF⟩ := b1_i hF
    refine Ex_callK (K1 := 0) (K2 := 1) (kind := 2) (y := 181) (as := [.ref 27, .int x2]) (rest := []) (L0 := [some (.ref 27), some (.int x2), none, none]) (d' := 3) (v := some (.int r1)) (σ1 := (S, M, O)) rfl rfl mt_181 rfl rfl (by omega) (X_Sc_restThatServes (Nat.le_refl _) _ _ _ hx2) (Ex_st (st2 := [.int r1]) rfl ?_) (by omega)
    refine Ex_go 4 (pc' := if r1 = (-1 : Int32) then 49 else 41) (L' := [some (.ref 0), some (.int x1), some (.int x2), some (.int r1)]) (st' := []) (σ' := (S, M, O)) (rfl) ?_
    refine Ex_br (fun hc => ?_) (fun hc => ?_)
    · rw [if_pos hc] at hF
      refine Ex_go 2 (pc' := 22) (L' := [some (.ref 0), some (.int x1), some (.int (x2 + (1 : Int32))), some (.int r1)]) (st' := []) (σ' := (S, M, O)) (rfl) ?_
      exact Ex_mono (L := [some (.ref 0), some (.int x1), some (.int (x2 + (1 : Int32))), none]) (Le_s (Le_s (Le_s (Le_n (Le_0))))) (ih _ _ _ _ hF) (Nat.le_refl _) (by omega)
    · rw [if_neg hc] at hF
      refine Ex_go 5 (pc' := 48) (L' := [some (.ref 0), some (.int x1), some (.int x2), some (.int r1)]) (st' := [.int (((1000 : Int32) * x2) + r1)]) (σ' := (S, M, O)) (rfl) ?_
      cases hF
      exact Ex_fin rfl
def F_w_mesh (x1 : Int32) (S : Sto) : Option (Int32 ⊕ Nat) := if x1 < (2 : Int32) then F_w_mesh_12 S else if x1 ≤ (999 : Int32) then F_w_mesh_22 FU x1 (2 : Int32) S else F_w_mesh_12 S
set_option maxRecDepth 100000 in
theorem X_w_mesh {nL : Nat} {xs : Nat → Int32} {M : Sto} {O : Sto} {d : Nat} (hd : 8 ≤ d) : ∀ (x1 : Int32) (S : Sto) (r : Int32 ⊕ Nat), F_w_mesh x1 S = some r → EX nL xs 1 MI_182 d 0 [some (.ref 0), some (.int x1), none, none] [] (S, M, O) (rsI r) (S, M, O) := by
  intro x1 S r hF
  unfold F_w_mesh at hF
  refine Ex_go 3 (pc' := if x1 < (2 : Int32) then 12 else 5) (L' := [some (.ref 0), some (.int x1), none, none]) (st' := []) (σ' := (S, M, O)) (rfl) ?_
  refine Ex_br (fun hc => ?_) (fun hc => ?_)
  · rw [if_pos hc] at hF
    exact Ex_mono (L := [none, none, none, none]) (Le_n (Le_n (Le_n (Le_n (Le_0))))) (X_w_mesh_12 hd _ _ hF) (Nat.le_refl _) (by omega)
  · rw [if_neg hc] at hF
    refine Ex_go 3 (pc' := if x1 ≤ (999 : Int32) then 20 else 12) (L' := [some (.ref 0), some (.int x1), none, none]) (st' := []) (σ' := (S, M, O)) (rfl) ?_
    refine Ex_br (fun hc => ?_) (fun hc => ?_)
    · rw [if_pos hc] at hF
      refine Ex_go 2 (pc' := 22) (L' := [some (.ref 0), some (.int x1), some (.int (2 : Int32)), none]) (st' := []) (σ' := (S, M, O)) (rfl) ?_
      exact Ex_mono (L := [some (.ref 0), some (.int x1), some (.int (2 : Int32)), none]) (Le_s (Le_s (Le_s (Le_n (Le_0))))) (X_w_mesh_22 hd FU _ _ _ _ hF) (Nat.le_refl _) (by omega)
    · rw [if_neg hc] at hF
      exact Ex_mono (L := [none, none, none, none]) (Le_n (Le_n (Le_n (Le_n (Le_0))))) (X_w_mesh_12 hd _ _ hF) (Nat.le_refl _) (by omega)
def F_l_mesh (x1 : Int32) (S : Sto) (O : Sto) : Option (Int32 × Sto) := b1 (F_w_mesh x1 S) (fun r1 => su r1 (fun v3 => some ((0 : Int32), (ul O 2000 (vp_updL (al O 2000) (Int32.toNatClampNeg (0 : Int32)) (Int32.toInt64 v3))))) (fun z4 => if z4 = 0 then some ((1 : Int32), O) else (none)))
set_option maxRecDepth 100000 in
theorem X_l_mesh {nL : Nat} {xs : Nat → Int32} {M : Sto} {d : Nat} (hd : 9 ≤ d) : ∀ (x1 : Int32) (S : Sto) (O : Sto) (r : Int32) (O' : Sto), F_l_mesh x1 S O = some (r, O') → EX nL xs 1 MI_183 d 0 [some (.ref 0), some (.int x1), some (.ref 2000), none] [] (S, M, O) (.inl (some (.int r))) (S, M, O') := by
  intro x1 S O r O' hF
  unfold F_l_mesh at hF
  refine Ex_go 4 (pc' := 4) (L' := [some (.ref 0), some (.int x1), some (.ref 2000), none]) (st' := [.int x1, .ref 0, .int (0 : Int32), .ref 2000]) (σ' := (S, M, O)) (rfl) ?_
  obtain ⟨r1, hx2, hF⟩ := b1_i hF
  cases r1 with
  | inl v3 =>
    rw [su_l] at hF
    refine Ex_callK (K1 := 1) (K2 := 0) (kind := 3) (y := 182) (as := [.ref 0, .int x1]) (rest := [.int (0 : Int32), .ref 2000]) (L0 := [some (.ref 0), some (.int x1), none, none]) (d' := 8) (v := some (.int v3)) (σ1 := (S, M, O)) rfl rfl mt_182 rfl rfl (by omega) (X_w_mesh (Nat.le_refl _) _ _ _ hx2) (Ex_st (st2 := [.int v3, .int (0 : Int32), .ref 2000]) rfl ?_) (by omega)
    refine Ex_go 1 (pc' := 8) (L' := [some (.ref 0), some (.int x1), some (.ref 2000), none]) (st' := [.long (Int32.toInt64 v3), .int (0 : Int32), .ref 2000]) (σ' := (S, M, O)) (rfl) ?_
    refine Ex_chk (b := ib (0 : Int32) 1) (pc' := 9) (L' := [some (.ref 0), some (.int x1), some (.ref 2000), none]) (st' := []) (σ' := (S, M, (ul O 2000 (vp_updL (al O 2000) (Int32.toNatClampNeg (0 : Int32)) (Int32.toInt64 v3))))) rfl (by decide) ?_
    refine Ex_go 2 (pc' := 16) (L' := [some (.ref 0), some (.int x1), some (.ref 2000), none]) (st' := [.int (0 : Int32)]) (σ' := (S, M, (ul O 2000 (vp_updL (al O 2000) (Int32.toNatClampNeg (0 : Int32)) (Int32.toInt64 v3))))) (rfl) ?_
    cases hF
    exact Ex_fin rfl
  | inr z4 =>
    by_cases hz0 : z4 = 0
    · have hF : (if z4 = 0 then _ else _) = _ := hF
      rw [if_pos hz0] at hF
      subst hz0
      refine Ex_callX (K1 := 1) (K2 := 0) (y := 182) (as := [.ref 0, .int x1]) (rest := [.int (0 : Int32), .ref 2000]) (L0 := [some (.ref 0), some (.int x1), none, none]) (d' := 8) (σ1 := (S, M, O)) (x := 0) (pc' := 13) (i := 3) rfl rfl mt_182 rfl rfl (by omega) (X_w_mesh (Nat.le_refl _) _ _ _ hx2) rfl (Ex_L (L2 := [some (.ref 0), some (.int x1), some (.ref 2000), none]) rfl ?_) (by omega)
      refine Ex_go 1 (pc' := 14) (L' := [some (.ref 0), some (.int x1), some (.ref 2000), none]) (st' := [.int (1 : Int32)]) (σ' := (S, M, O)) (rfl) ?_
      cases hF
      exact Ex_fin rfl
    have hF : (if z4 = 0 then _ else _) = _ := hF
    rw [if_neg hz0] at hF
    cases hF
def F_m_isMesh_30 (k2 : Int32 → Int32 → Int32 → Sto → Option Int32) (x1 : Int32) (x2 : Int32) (x3 : Int32) (s0 : Int32) (M : Sto) : Option Int32 := ck (ib x3 12) (if s0 = (ai M 1018 (Int32.toNatClampNeg x3)) then k2 x1 x2 (x3 + (1 : Int32)) M else some (0 : Int32))
set_option maxRecDepth 100000 in
theorem X_m_isMesh_30 {nL : Nat} {xs : Nat → Int32} {S : Sto} {O : Sto} {d : Nat} (hd : 1 ≤ d) {k2 : Int32 → Int32 → Int32 → Sto → Option Int32} (hk2 : ∀ (x1 : Int32) (x2 : Int32) (x3 : Int32) (M : Sto) (r : Int32), k2 x1 x2 x3 M = some r → EX nL xs 0 MI_184 d 2 [some (.ref 1000), some (.int x1), some (.int x2), some (.int x3)] [] (S, M, O) (.inl (some (.int r))) (S, M, O)) : ∀ (x1 : Int32) (x2 : Int32) (x3 : Int32) (s0 : Int32) (M : Sto) (r : Int32), F_m_isMesh_30 k2 x1 x2 x3 s0 M = some r → EX nL xs 0 MI_184 d 30 [some (.ref 1000), some (.int x1), some (.int x2), some (.int x3)] [.int s0] (S, M, O) (.inl (some (.int r))) (S, M, O) := by
  intro x1 x2 x3 s0 M r hF
  unfold F_m_isMesh_30 at hF
  refine Ex_go 3 (pc' := 35) (L' := [some (.ref 1000), some (.int x1), some (.int x2), some (.int x3)]) (st' := [.int x3, .ref 1018, .int s0]) (σ' := (S, M, O)) (rfl) ?_
  obtain ⟨hc1, hF⟩ := ck_i hF
  refine Ex_chk (b := ib x3 12) (pc' := 36) (L' := [some (.ref 1000), some (.int x1), some (.int x2), some (.int x3)]) (st' := [.int (ai M 1018 (Int32.toNatClampNeg x3)), .int s0]) (σ' := (S, M, O)) rfl hc1 ?_
  refine Ex_go 1 (pc' := if s0 = (ai M 1018 (Int32.toNatClampNeg x3)) then 41 else 39) (L' := [some (.ref 1000), some (.int x1), some (.int x2), some (.int x3)]) (st' := []) (σ' := (S, M, O)) (rfl) ?_
  refine Ex_br (fun hc => ?_) (fun hc => ?_)
  · rw [if_pos hc] at hF
    refine Ex_go 2 (pc' := 2) (L' := [some (.ref 1000), some (.int x1), some (.int x2), some (.int (x3 + (1 : Int32)))]) (st' := []) (σ' := (S, M, O)) (rfl) ?_
    exact Ex_mono (L := [some (.ref 1000), some (.int x1), some (.int x2), some (.int (x3 + (1 : Int32)))]) (Le_s (Le_s (Le_s (Le_s (Le_0))))) (hk2 _ _ _ _ _ hF) (Nat.le_refl _) (by omega)
  · rw [if_neg hc] at hF
    refine Ex_go 1 (pc' := 40) (L' := [some (.ref 1000), some (.int x1), some (.int x2), some (.int x3)]) (st' := [.int (0 : Int32)]) (σ' := (S, M, O)) (rfl) ?_
    cases hF
    exact Ex_fin rfl
def F_m_isMesh_2 : Nat → Int32 → Int32 → Int32 → Sto → Option Int32
  | 0, _, _, _, _ => none
  | n + 1, x1, x2, x3, M => if (gi M 1019) ≤ x3 then some (1 : Int32) else ck (ib x3 12) (ck (nzL (Int32.toInt64 x1)) (if ((al M 1016 (Int32.toNatClampNeg x3)) - (al M 1016 (Int32.toNatClampNeg x3)) / (Int32.toInt64 x1) * (Int32.toInt64 x1)) = (Int32.toInt64 x2) then F_m_isMesh_30 (F_m_isMesh_2 n) x1 x2 x3 (1 : Int32) M else F_m_isMesh_30 (F_m_isMesh_2 n) x1 x2 x3 (0 : Int32) M))
set_option maxRecDepth 100000 in
theorem X_m_isMesh_2 {nL : Nat} {xs : Nat → Int32} {S : Sto} {O : Sto} {d : Nat} (hd : 1 ≤ d) : ∀ n : Nat, ∀ (x1 : Int32) (x2 : Int32) (x3 : Int32) (M : Sto) (r : Int32), F_m_isMesh_2 n x1 x2 x3 M = some r → EX nL xs 0 MI_184 d 2 [some (.ref 1000), some (.int x1), some (.int x2), some (.int x3)] [] (S, M, O) (.inl (some (.int r))) (S, M, O) := by
  intro n
  induction n with
  | zero => intro x1 x2 x3 M r hF; cases hF
  | succ n ih =>
  intro x1 x2 x3 M r hF
  unfold F_m_isMesh_2 at hF
  refine Ex_go 4 (pc' := if (gi M 1019) ≤ x3 then 47 else 10) (L' := [some (.ref 1000), some (.int x1), some (.int x2), some (.int x3)]) (st' := []) (σ' := (S, M, O)) (rfl) ?_
  refine Ex_br (fun hc => ?_) (fun hc => ?_)
  · rw [if_pos hc] at hF
    refine Ex_go 1 (pc' := 48) (L' := [some (.ref 1000), some (.int x1), some (.int x2), some (.int x3)]) (st' := [.int (1 : Int32)]) (σ' := (S, M, O)) (rfl) ?_
    cases hF
    exact Ex_fin rfl
  · rw [if_neg hc] at hF
    refine Ex_go 3 (pc' := 15) (L' := [some (.ref 1000), some (.int x1), some (.int x2), some (.int x3)]) (st' := [.int x3, .ref 1016]) (σ' := (S, M, O)) (rfl) ?_
    obtain ⟨hc1, hF⟩ := ck_i hF
    refine Ex_chk (b := ib x3 12) (pc' := 16) (L' := [some (.ref 1000), some (.int x1), some (.int x2), some (.int x3)]) (st' := [.long (al M 1016 (Int32.toNatClampNeg x3))]) (σ' := (S, M, O)) rfl hc1 ?_
    refine Ex_go 2 (pc' := 18) (L' := [some (.ref 1000), some (.int x1), some (.int x2), some (.int x3)]) (st' := [.long (Int32.toInt64 x1), .long (al M 1016 (Int32.toNatClampNeg x3))]) (σ' := (S, M, O)) (rfl) ?_
    obtain ⟨hc2, hF⟩ := ck_i hF
    refine Ex_chk (b := nzL (Int32.toInt64 x1)) (pc' := 19) (L' := [some (.ref 1000), some (.int x1), some (.int x2), some (.int x3)]) (st' := [.long ((al M 1016 (Int32.toNatClampNeg x3)) - (al M 1016 (Int32.toNatClampNeg x3)) / (Int32.toInt64 x1) * (Int32.toInt64 x1))]) (σ' := (S, M, O)) rfl hc2 ?_
    refine Ex_go 4 (pc' := if ¬ (lg_cmp ((al M 1016 (Int32.toNatClampNeg x3)) - (al M 1016 (Int32.toNatClampNeg x3)) / (Int32.toInt64 x1) * (Int32.toInt64 x1)) (Int32.toInt64 x2)) = 0 then 29 else 25) (L' := [some (.ref 1000), some (.int x1), some (.int x2), some (.int x3)]) (st' := []) (σ' := (S, M, O)) (rfl) ?_
    refine Ex_brNI lc_ne (fun hc => ?_) (fun hc => ?_)
    · rw [if_pos hc] at hF
      refine Ex_go 2 (pc' := 30) (L' := [some (.ref 1000), some (.int x1), some (.int x2), some (.int x3)]) (st' := [.int (1 : Int32)]) (σ' := (S, M, O)) (rfl) ?_
      exact Ex_mono (L := [some (.ref 1000), some (.int x1), some (.int x2), some (.int x3)]) (Le_s (Le_s (Le_s (Le_s (Le_0))))) (X_m_isMesh_30 hd ih _ _ _ _ _ _ hF) (Nat.le_refl _) (by omega)
    · rw [if_neg hc] at hF
      refine Ex_go 1 (pc' := 30) (L' := [some (.ref 1000), some (.int x1), some (.int x2), some (.int x3)]) (st' := [.int (0 : Int32)]) (σ' := (S, M, O)) (rfl) ?_
      exact Ex_mono (L := [some (.ref 1000), some (.int x1), some (.int x2), some (.int x3)]) (Le_s (Le_s (Le_s (Le_s (Le_0))))) (X_m_isMesh_30 hd ih _ _ _ _ _ _ hF) (Nat.le_refl _) (by omega)
def F_m_isMesh (x1 : Int32) (x2 : Int32) (M : Sto) : Option Int32 := F_m_isMesh_2 FU x1 x2 (0 : Int32) M
set_option maxRecDepth 100000 in
theorem X_m_isMesh {nL : Nat} {xs : Nat → Int32} {S : Sto} {O : Sto} {d : Nat} (hd : 1 ≤ d) : ∀ (x1 : Int32) (x2 : Int32) (M : Sto) (r : Int32), F_m_isMesh x1 x2 M = some r → EX nL xs 0 MI_184 d 0 [some (.ref 1000), some (.int x1), some (.int x2), none] [] (S, M, O) (.inl (some (.int r))) (S, M, O) := by
  intro x1 x2 M r hF
  unfold F_m_isMesh at hF
  refine Ex_go 2 (pc' := 2) (L' := [some (.ref 1000), some (.int x1), some (.int x2), some (.int (0 : Int32))]) (st' := []) (σ' := (S, M, O)) (rfl) ?_
  exact Ex_mono (L := [some (.ref 1000), some (.int x1), some (.int x2), some (.int (0 : Int32))]) (Le_s (Le_s (Le_s (Le_s (Le_0))))) (X_m_isMesh_2 hd FU _ _ _ _ _ hF) (Nat.le_refl _) (by omega)
def F_m_mesh_34 (k27 : Int32 → Int32 → Sto → Option (Int32 × Sto)) : Nat → Int32 → Int32 → Int32 → Sto → Option (Int32 × Sto)
  | 0, _, _, _, _ => none
  | n + 1, x1, x2, x3, M => if x2 ≤ x3 then k27 x1 (x2 + (1 : Int32)) M else b1 (F_m_isMesh x2 x3 M) (fun r1 => if r1 = 0 then F_m_mesh_34 k27 n x1 x2 (x3 + (1 : Int32)) M else some ((((1000 : Int32) * x2) + x3), M))
set_option maxRecDepth 100000 in
theorem X_m_mesh_34 {nL : Nat} {xs : Nat → Int32} {S : Sto} {O : Sto} {d : Nat} (hd : 2 ≤ d) {k27 : Int32 → Int32 → Sto → Option (Int32 × Sto)} (hk27 : ∀ (x1 : Int32) (x2 : Int32) (M : Sto) (r : Int32) (M' : Sto), k27 x1 x2 M = some (r, M') → EX nL xs 0 MI_185 d 27 [some (.ref 1000), some (.int x1), some (.int x2), none] [] (S, M, O) (.inl (some (.int r))) (S, M', O)) : ∀ n : Nat, ∀ (x1 : Int32) (x2 : Int32) (x3 : Int32) (M : Sto) (r : Int32) (M' : Sto), F_m_mesh_34 k27 n x1 x2 x3 M = some (r, M') → EX nL xs 0 MI_185 d 34 [some (.ref 1000), some (.int x1), some (.int x2), some (.int x3)] [] (S, M, O) (.inl (some (.int r))) (S, M', O) := by
  intro n
  induction n with
  | zero => intro x1 x2 x3 M r M' hF; cases hF
  | succ n ih =>
  intro x1 x2 x3 M r M' hF
  unfold F_m_mesh_34 at hF
  refine Ex_go 3 (pc' := if x2 ≤ x3 then 62 else 39) (L' := [some (.ref 1000), some (.int x1), some (.int x2), some (.int x3)]) (st' := []) (σ' := (S, M, O)) (rfl) ?_
  refine Ex_br (fun hc => ?_) (fun hc => ?_)
  · rw [if_pos hc] at hF
    refine Ex_go 2 (pc' := 27) (L' := [some (.ref 1000), some (.int x1), some (.int (x2 + (1 : Int32))), some (.int x3)]) (st' := []) (σ' := (S, M, O)) (rfl) ?_
    exact Ex_mono (L := [some (.ref 1000), some (.int x1), some (.int (x2 + (1 : Int32))), none]) (Le_s (Le_s (Le_s (Le_n (Le_0))))) (hk27 _ _ _ _ _ hF) (Nat.le_refl _) (by omega)
  · rw [if_neg hc] at hF
    refine Ex_go 3 (pc' := 42) (L' := [some (.ref 1000), some (.int x1), some (.int x2), some (.int x3)]) (st' := [.int x3, .int x2, .ref 1000]) (σ' := (S, M, O)) (rfl) ?_
    obtain ⟨r1, hx2, hF⟩ := b1_i hF
    refine Ex_call (kind := 2) (y := 184) (as := [.ref 1000, .int x2, .int x3]) (rest := []) (L0 := [some (.ref 1000), some (.int x2), some (.int x3), none]) (d' := 1) (v := some (.int r1)) (σ1 := (S, M, O)) rfl rfl mt_184 rfl rfl (by omega) (X_m_isMesh (Nat.le_refl _) _ _ _ _ hx2) (Ex_st (st2 := [.int r1]) rfl ?_)
    refine Ex_go 1 (pc' := if r1 = 0 then 56 else 48) (L' := [some (.ref 1000), some (.int x1), some (.int x2), some (.int x3)]) (st' := []) (σ' := (S, M, O)) (rfl) ?_
    refine Ex_br (fun hc => ?_) (fun hc => ?_)
    · rw [if_pos hc] at hF
      refine Ex_go 2 (pc' := 34) (L' := [some (.ref 1000), some (.int x1), some (.int x2), some (.int (x3 + (1 : Int32)))]) (st' := []) (σ' := (S, M, O)) (rfl) ?_
      exact Ex_mono (L := [some (.ref 1000), some (.int x1), some (.int x2), some (.int (x3 + (1 : Int32)))]) (Le_s (Le_s (Le_s (Le_s (Le_0))))) (ih _ _ _ _ _ _ hF) (Nat.le_refl _) (by omega)
    · rw [if_neg hc] at hF
      refine Ex_go 5 (pc' := 55) (L' := [some (.ref 1000), some (.int x1), some (.int x2), some (.int x3)]) (st' := [.int (((1000 : Int32) * x2) + x3)]) (σ' := (S, M, O)) (rfl) ?_
      cases hF
      exact Ex_fin rfl
def F_m_mesh_27 : Nat → Int32 → Int32 → Sto → Option (Int32 × Sto)
  | 0, _, _, _ => none
  | n + 1, x1, x2, M => if x1 < x2 then some ((-1 : Int32), M) else F_m_mesh_34 (F_m_mesh_27 n) FU x1 x2 (0 : Int32) M
set_option maxRecDepth 100000 in
theorem X_m_mesh_27 {nL : Nat} {xs : Nat → Int32} {S : Sto} {O : Sto} {d : Nat} (hd : 2 ≤ d) : ∀ n : Nat, ∀ (x1 : Int32) (x2 : Int32) (M : Sto) (r : Int32) (M' : Sto), F_m_mesh_27 n x1 x2 M = some (r, M') → EX nL xs 0 MI_185 d 27 [some (.ref 1000), some (.int x1), some (.int x2), none] [] (S, M, O) (.inl (some (.int r))) (S, M', O) := by
  intro n
  induction n with
  | zero => intro x1 x2 M r M' hF; cases hF
  | succ n ih =>
  intro x1 x2 M r M' hF
  unfold F_m_mesh_27 at hF
  refine Ex_go 3 (pc' := if x1 < x2 then 68 else 32) (L' := [some (.ref 1000), some (.int x1), some (.int x2), none]) (st' := []) (σ' := (S, M, O)) (rfl) ?_
  refine Ex_br (fun hc => ?_) (fun hc => ?_)
  · rw [if_pos hc] at hF
    refine Ex_go 1 (pc' := 69) (L' := [some (.ref 1000), some (.int x1), some (.int x2), none]) (st' := [.int (-1 : Int32)]) (σ' := (S, M, O)) (rfl) ?_
    cases hF
    exact Ex_fin rfl
  · rw [if_neg hc] at hF
    refine Ex_go 2 (pc' := 34) (L' := [some (.ref 1000), some (.int x1), some (.int x2), some (.int (0 : Int32))]) (st' := []) (σ' := (S, M, O)) (rfl) ?_
    exact Ex_mono (L := [some (.ref 1000), some (.int x1), some (.int x2), some (.int (0 : Int32))]) (Le_s (Le_s (Le_s (Le_s (Le_0))))) (X_m_mesh_34 hd ih FU _ _ _ _ _ _ hF) (Nat.le_refl _) (by omega)
def F_m_mesh (x1 : Int32) (M : Sto) : Option (Int32 × Sto) := b1 (F_m_isIn (Int32.toInt64 x1) (2 : Int64) (999 : Int64)) (fun r1 => if r1 = 0 then b2 (F_m_fail (1 : Int32) (si M 1001 (0 : Int32))) (fun r3 M5 => some (r3, M5)) else F_m_mesh_27 FU x1 (2 : Int32) (si M 1001 (0 : Int32)))
set_option maxRecDepth 100000 in
theorem X_m_mesh {nL : Nat} {xs : Nat → Int32} {S : Sto} {O : Sto} {d : Nat} (hd : 2 ≤ d) : ∀ (x1 : Int32) (M : Sto) (r : Int32) (M' : Sto), F_m_mesh x1 M = some (r, M') → EX nL xs 0 MI_185 d 0 [some (.ref 1000), some (.int x1), none, none] [] (S, M, O) (.inl (some (.int r))) (S, M', O) := by
  intro x1 M r M' hF
  unfold F_m_mesh at hF
  refine Ex_go 7 (pc' := 13) (L' := [some (.ref 1000), some (.int x1), none, none]) (st' := [.long (999 : Int64), .long (2 : Int64), .long (Int32.toInt64 x1)]) (σ' := (S, (si M 1001 (0 : Int32)), O)) (rfl) ?_
  obtain ⟨r1, hx2, hF⟩ := b1_i hF
  refine Ex_call (kind := 0) (y := 91) (as := [.long (Int32.toInt64 x1), .long (2 : Int64), .long (999 : Int64)]) (rest := []) (L0 := [some (.long (Int32.toInt64 x1)), none, some (.long (2 : Int64)), none, some (.long (999 : Int64)), none]) (d' := 1) (v := some (.int r1)) (σ1 := (S, (si M 1001 (0 : Int32)), O)) rfl rfl mt_91 rfl rfl (by omega) (X_m_isIn (Nat.le_refl _) _ _ _ _ hx2) (Ex_st (st2 := [.int r1]) rfl ?_)
  refine Ex_go 1 (pc' := if ¬ r1 = 0 then 25 else 19) (L' := [some (.ref 1000), some (.int x1), none, none]) (st' := []) (σ' := (S, (si M 1001 (0 : Int32)), O)) (rfl) ?_
  refine Ex_brN (fun hc => ?_) (fun hc => ?_)
  · rw [if_pos hc] at hF
    refine Ex_go 2 (pc' := 21) (L' := [some (.ref 1000), some (.int x1), none, none]) (st' := [.int (1 : Int32), .ref 1000]) (σ' := (S, (si M 1001 (0 : Int32)), O)) (rfl) ?_
    obtain ⟨r3, M5, hx4, hF⟩ := b2_i hF
    refine Ex_call (kind := 2) (y := 50) (as := [.ref 1000, .int (1 : Int32)]) (rest := []) (L0 := [some (.ref 1000), some (.int (1 : Int32))]) (d' := 1) (v := some (.int r3)) (σ1 := (S, M5, O)) rfl rfl mt_50 rfl rfl (by omega) (X_m_fail (Nat.le_refl _) _ _ _ _ hx4) (Ex_st (st2 := [.int r3]) rfl ?_)
    cases hF
    exact Ex_fin rfl
  · rw [if_neg hc] at hF
    refine Ex_go 2 (pc' := 27) (L' := [some (.ref 1000), some (.int x1), some (.int (2 : Int32)), none]) (st' := []) (σ' := (S, (si M 1001 (0 : Int32)), O)) (rfl) ?_
    exact Ex_mono (L := [some (.ref 1000), some (.int x1), some (.int (2 : Int32)), none]) (Le_s (Le_s (Le_s (Le_n (Le_0))))) (X_m_mesh_27 hd FU _ _ _ _ _ hF) (Nat.le_refl _) (by omega)
def F_w_markCatchers_0_31_2 : Nat → Int32 → Int32 → Sto → Option (Unit × Sto)
  | 0, _, _, _ => none
  | n + 1, x2, x3, S => if x2 ≤ x3 then some ((), S) else if (nI 12) ≤ x3 then some ((), S) else if (nI 12) ≤ x3 then some ((), S) else ck (ib x3 12) (b1 (F_Se_catchers (al S 31 (Int32.toNatClampNeg x3)) S) (fun r2 => ck (ib x3 12) (F_w_markCatchers_0_31_2 n x2 (x3 + (1 : Int32)) (ui S 56 (upd (ai S 56) (Int32.toNatClampNeg x3) r2)))))
set_option maxRecDepth 100000 in
theorem X_w_markCatchers_0_31_2 {nL : Nat} {xs : Nat → Int32} {M : Sto} {O : Sto} {d : Nat} (hd : 3 ≤ d) : ∀ n : Nat, ∀ (x2 : Int32) (x3 : Int32) (S : Sto) (r : Unit) (S' : Sto), F_w_markCatchers_0_31_2 n x2 x3 S = some (r, S') → EX nL xs 0 MI_174 d 2 [some (.ref 0), some (.ref 31), some (.int x2), some (.int x3)] [] (S, M, O) (.inl none) (S', M, O) := by
  intro n
  induction n with
  | zero => intro x2 x3 S r S' hF; cases hF
  | succ n ih =>
  intro x2 x3 S r S' hF
  unfold F_w_markCatchers_0_31_2 at hF
  refine Ex_go 3 (pc' := if x2 ≤ x3 then 44 else 7) (L' := [some (.ref 0), some (.ref 31), some (.int x2), some (.int x3)]) (st' := []) (σ' := (S, M, O)) (rfl) ?_
  refine Ex_br (fun hc => ?_) (fun hc => ?_)
  · rw [if_pos hc] at hF
    cases hF
    exact Ex_fin rfl
  · rw [if_neg hc] at hF
    refine Ex_go 4 (pc' := if (nI 12) ≤ x3 then 44 else 13) (L' := [some (.ref 0), some (.ref 31), some (.int x2), some (.int x3)]) (st' := []) (σ' := (S, M, O)) (rfl) ?_
    refine Ex_br (fun hc => ?_) (fun hc => ?_)
    · rw [if_pos hc] at hF
      cases hF
      exact Ex_fin rfl
    · rw [if_neg hc] at hF
      refine Ex_go 5 (pc' := if (nI 12) ≤ x3 then 44 else 22) (L' := [some (.ref 0), some (.ref 31), some (.int x2), some (.int x3)]) (st' := []) (σ' := (S, M, O)) (rfl) ?_
      refine Ex_br (fun hc => ?_) (fun hc => ?_)
      · rw [if_pos hc] at hF
        cases hF
        exact Ex_fin rfl
      · rw [if_neg hc] at hF
        refine Ex_go 7 (pc' := 33) (L' := [some (.ref 0), some (.ref 31), some (.int x2), some (.int x3)]) (st' := [.int x3, .ref 31, .ref 12, .int x3, .ref 56]) (σ' := (S, M, O)) (rfl) ?_
        obtain ⟨hc1, hF⟩ := ck_i hF
        refine Ex_chk (b := ib x3 12) (pc' := 34) (L' := [some (.ref 0), some (.ref 31), some (.int x2), some (.int x3)]) (st' := [.long (al S 31 (Int32.toNatClampNeg x3)), .ref 12, .int x3, .ref 56]) (σ' := (S, M, O)) rfl hc1 ?_
        obtain ⟨r2, hx3, hF⟩ := b1_i hF
        refine Ex_call (kind := 2) (y := 124) (as := [.ref 12, .long (al S 31 (Int32.toNatClampNeg x3))]) (rest := [.int x3, .ref 56]) (L0 := [some (.ref 12), some (.long (al S 31 (Int32.toNatClampNeg x3))), none, none, none]) (d' := 2) (v := some (.int r2)) (σ1 := (S, M, O)) rfl rfl mt_124 rfl rfl (by omega) (X_Se_catchers (Nat.le_refl _) _ _ _ hx3) (Ex_st (st2 := [.int r2, .int x3, .ref 56]) rfl ?_)
        obtain ⟨hc4, hF⟩ := ck_i hF
        refine Ex_chk (b := ib x3 12) (pc' := 38) (L' := [some (.ref 0), some (.ref 31), some (.int x2), some (.int x3)]) (st' := []) (σ' := ((ui S 56 (upd (ai S 56) (Int32.toNatClampNeg x3) r2)), M, O)) rfl hc4 ?_
        refine Ex_go 2 (pc' := 2) (L' := [some (.ref 0), some (.ref 31), some (.int x2), some (.int (x3 + (1 : Int32)))]) (st' := []) (σ' := ((ui S 56 (upd (ai S 56) (Int32.toNatClampNeg x3) r2)), M, O)) (rfl) ?_
        exact Ex_mono (L := [some (.ref 0), some (.ref 31), some (.int x2), some (.int (x3 + (1 : Int32)))]) (Le_s (Le_s (Le_s (Le_s (Le_0))))) (ih _ _ _ _ _ hF) (Nat.le_refl _) (by omega)
def F_w_markCatchers_0_31 (x2 : Int32) (S : Sto) : Option (Unit × Sto) := F_w_markCatchers_0_31_2 FU x2 (0 : Int32) S
set_option maxRecDepth 100000 in
theorem X_w_markCatchers_0_31 {nL : Nat} {xs : Nat → Int32} {M : Sto} {O : Sto} {d : Nat} (hd : 3 ≤ d) : ∀ (x2 : Int32) (S : Sto) (r : Unit) (S' : Sto), F_w_markCatchers_0_31 x2 S = some (r, S') → EX nL xs 0 MI_174 d 0 [some (.ref 0), some (.ref 31), some (.int x2), none] [] (S, M, O) (.inl none) (S', M, O) := by
  intro x2 S r S' hF
  unfold F_w_markCatchers_0_31 at hF
  refine Ex_go 2 (pc' := 2) (L' := [some (.ref 0), some (.ref 31), some (.int x2), some (.int (0 : Int32))]) (st' := []) (σ' := (S, M, O)) (rfl) ?_
  exact Ex_mono (L := [some (.ref 0), some (.ref 31), some (.int x2), some (.int (0 : Int32))]) (Le_s (Le_s (Le_s (Le_s (Le_0))))) (X_w_markCatchers_0_31_2 hd FU _ _ _ _ _ hF) (Nat.le_refl _) (by omega)
def F_Sc_isWished (x1 : Int32) (S : Sto) : Option Int32 := if x1 < 0 then some (0 : Int32) else if (12 : Int32) ≤ x1 then some (0 : Int32) else ck (ib x1 12) (if (ai S 32 (Int32.toNatClampNeg x1)) = 0 then some (0 : Int32) else some (1 : Int32))
set_option maxRecDepth 100000 in
theorem X_Sc_isWished {nL : Nat} {xs : Nat → Int32} {M : Sto} {O : Sto} {d : Nat} (hd : 1 ≤ d) : ∀ (x1 : Int32) (S : Sto) (r : Int32), F_Sc_isWished x1 S = some r → EX nL xs 0 MI_175 d 0 [some (.ref 27), some (.int x1)] [] (S, M, O) (.inl (some (.int r))) (S, M, O) := by
  intro x1 S r hF
  unfold F_Sc_isWished at hF
  refine Ex_go 2 (pc' := if x1 < 0 then 23 else 4) (L' := [some (.ref 27), some (.int x1)]) (st' := []) (σ' := (S, M, O)) (rfl) ?_
  refine Ex_br (fun hc => ?_) (fun hc => ?_)
  · rw [if_pos hc] at hF
    refine Ex_go 1 (pc' := 24) (L' := [some (.ref 27), some (.int x1)]) (st' := [.int (0 : Int32)]) (σ' := (S, M, O)) (rfl) ?_
    cases hF
    exact Ex_fin rfl
  · rw [if_neg hc] at hF
    refine Ex_go 3 (pc' := if (12 : Int32) ≤ x1 then 23 else 10) (L' := [some (.ref 27), some (.int x1)]) (st' := []) (σ' := (S, M, O)) (rfl) ?_
    refine Ex_br (fun hc => ?_) (fun hc => ?_)
    · rw [if_pos hc] at hF
      refine Ex_go 1 (pc' := 24) (L' := [some (.ref 27), some (.int x1)]) (st' := [.int (0 : Int32)]) (σ' := (S, M, O)) (rfl) ?_
      cases hF
      exact Ex_fin rfl
    · rw [if_neg hc] at hF
      refine Ex_go 3 (pc' := 15) (L' := [some (.ref 27), some (.int x1)]) (st' := [.int x1, .ref 32]) (σ' := (S, M, O)) (rfl) ?_
      obtain ⟨hc1, hF⟩ := ck_i hF
      refine Ex_chk (b := ib x1 12) (pc' := 16) (L' := [some (.ref 27), some (.int x1)]) (st' := [.int (ai S 32 (Int32.toNatClampNeg x1))]) (σ' := (S, M, O)) rfl hc1 ?_
      refine Ex_go 1 (pc' := if (ai S 32 (Int32.toNatClampNeg x1)) = 0 then 23 else 19) (L' := [some (.ref 27), some (.int x1)]) (st' := []) (σ' := (S, M, O)) (rfl) ?_
      refine Ex_br (fun hc => ?_) (fun hc => ?_)
      · rw [if_pos hc] at hF
        refine Ex_go 1 (pc' := 24) (L' := [some (.ref 27), some (.int x1)]) (st' := [.int (0 : Int32)]) (σ' := (S, M, O)) (rfl) ?_
        cases hF
        exact Ex_fin rfl
      · rw [if_neg hc] at hF
        refine Ex_go 2 (pc' := 24) (L' := [some (.ref 27), some (.int x1)]) (st' := [.int (1 : Int32)]) (σ' := (S, M, O)) (rfl) ?_
        cases hF
        exact Ex_fin rfl
def F_w_serves_38 (k2 : Int32 → Int32 → Sto → Option Int32) (x1 : Int32) (x2 : Int32) (s0 : Int32) (S : Sto) : Option Int32 := b1 (F_Sc_isWished x2 S) (fun r1 => if s0 = r1 then k2 x1 (x2 + (1 : Int32)) S else some (0 : Int32))
set_option maxRecDepth 100000 in
theorem X_w_serves_38 {nL : Nat} {xs : Nat → Int32} {M : Sto} {O : Sto} {d : Nat} (hd : 2 ≤ d) {k2 : Int32 → Int32 → Sto → Option Int32} (hk2 : ∀ (x1 : Int32) (x2 : Int32) (S : Sto) (r : Int32), k2 x1 x2 S = some r → EX nL xs 0 MI_176 d 2 [some (.ref 0), some (.int x1), some (.int x2)] [] (S, M, O) (.inl (some (.int r))) (S, M, O)) : ∀ (x1 : Int32) (x2 : Int32) (s0 : Int32) (S : Sto) (r : Int32), F_w_serves_38 k2 x1 x2 s0 S = some r → EX nL xs 0 MI_176 d 38 [some (.ref 0), some (.int x1), some (.int x2)] [.int s0] (S, M, O) (.inl (some (.int r))) (S, M, O) := by
  intro x1 x2 s0 S r hF
  unfold F_w_serves_38 at hF
  refine Ex_go 3 (pc' := 43) (L' := [some (.ref 0), some (.int x1), some (.int x2)]) (st' := [.int x2, .ref 27, .int s0]) (σ' := (S, M, O)) (rfl) ?_
  obtain ⟨r1, hx2, hF⟩ := b1_i hF
  refine Ex_call (kind := 2) (y := 175) (as := [.ref 27, .int x2]) (rest := [.int s0]) (L0 := [some (.ref 27), some (.int x2)]) (d' := 1) (v := some (.int r1)) (σ1 := (S, M, O)) rfl rfl mt_175 rfl rfl (by omega) (X_Sc_isWished (Nat.le_refl _) _ _ _ hx2) (Ex_st (st2 := [.int r1, .int s0]) rfl ?_)
  refine Ex_go 1 (pc' := if s0 = r1 then 51 else 49) (L' := [some (.ref 0), some (.int x1), some (.int x2)]) (st' := []) (σ' := (S, M, O)) (rfl) ?_
  refine Ex_br (fun hc => ?_) (fun hc => ?_)
  · rw [if_pos hc] at hF
    refine Ex_go 2 (pc' := 2) (L' := [some (.ref 0), some (.int x1), some (.int (x2 + (1 : Int32)))]) (st' := []) (σ' := (S, M, O)) (rfl) ?_
    exact Ex_mono (L := [some (.ref 0), some (.int x1), some (.int (x2 + (1 : Int32)))]) (Le_s (Le_s (Le_s (Le_0)))) (hk2 _ _ _ _ hF) (Nat.le_refl _) (by omega)
  · rw [if_neg hc] at hF
    refine Ex_go 1 (pc' := 50) (L' := [some (.ref 0), some (.int x1), some (.int x2)]) (st' := [.int (0 : Int32)]) (σ' := (S, M, O)) (rfl) ?_
    cases hF
    exact Ex_fin rfl
def F_w_serves_2 : Nat → Int32 → Int32 → Sto → Option Int32
  | 0, _, _, _ => none
  | n + 1, x1, x2, S => if (gi S 32) ≤ x2 then some (1 : Int32) else if (nI 12) ≤ x2 then some (1 : Int32) else ck (ib x2 12) (if ((ai S 56 (Int32.toNatClampNeg x2)) &&& x1) = 0 then F_w_serves_38 (F_w_serves_2 n) x1 x2 (0 : Int32) S else F_w_serves_38 (F_w_serves_2 n) x1 x2 (1 : Int32) S)
set_option maxRecDepth 100000 in
theorem X_w_serves_2 {nL : Nat} {xs : Nat → Int32} {M : Sto} {O : Sto} {d : Nat} (hd : 2 ≤ d) : ∀ n : Nat, ∀ (x1 : Int32) (x2 : Int32) (S : Sto) (r : Int32), F_w_serves_2 n x1 x2 S = some r → EX nL xs 0 MI_176 d 2 [some (.ref 0), some (.int x1), some (.int x2)] [] (S, M, O) (.inl (some (.int r))) (S, M, O) := by
  intro n
  induction n with
  | zero => intro x1 x2 S r hF; cases hF
  | succ n ih =>
  intro x1 x2 S r hF
  unfold F_w_serves_2 at hF
  refine Ex_go 5 (pc' := if (gi S 32) ≤ x2 then 57 else 13) (L' := [some (.ref 0), some (.int x1), some (.int x2)]) (st' := []) (σ' := (S, M, O)) (rfl) ?_
  refine Ex_br (fun hc => ?_) (fun hc => ?_)
  · rw [if_pos hc] at hF
    refine Ex_go 1 (pc' := 58) (L' := [some (.ref 0), some (.int x1), some (.int x2)]) (st' := [.int (1 : Int32)]) (σ' := (S, M, O)) (rfl) ?_
    cases hF
    exact Ex_fin rfl
  · rw [if_neg hc] at hF
    refine Ex_go 5 (pc' := if (nI 12) ≤ x2 then 57 else 22) (L' := [some (.ref 0), some (.int x1), some (.int x2)]) (st' := []) (σ' := (S, M, O)) (rfl) ?_
    refine Ex_br (fun hc => ?_) (fun hc => ?_)
    · rw [if_pos hc] at hF
      refine Ex_go 1 (pc' := 58) (L' := [some (.ref 0), some (.int x1), some (.int x2)]) (st' := [.int (1 : Int32)]) (σ' := (S, M, O)) (rfl) ?_
      cases hF
      exact Ex_fin rfl
    · rw [if_neg hc] at hF
      refine Ex_go 3 (pc' := 27) (L' := [some (.ref 0), some (.int x1), some (.int x2)]) (st' := [.int x2, .ref 56]) (σ' := (S, M, O)) (rfl) ?_
      obtain ⟨hc1, hF⟩ := ck_i hF
      refine Ex_chk (b := ib x2 12) (pc' := 28) (L' := [some (.ref 0), some (.int x1), some (.int x2)]) (st' := [.int (ai S 56 (Int32.toNatClampNeg x2))]) (σ' := (S, M, O)) rfl hc1 ?_
      refine Ex_go 3 (pc' := if ((ai S 56 (Int32.toNatClampNeg x2)) &&& x1) = 0 then 37 else 33) (L' := [some (.ref 0), some (.int x1), some (.int x2)]) (st' := []) (σ' := (S, M, O)) (rfl) ?_
      refine Ex_br (fun hc => ?_) (fun hc => ?_)
      · rw [if_pos hc] at hF
        refine Ex_go 1 (pc' := 38) (L' := [some (.ref 0), some (.int x1), some (.int x2)]) (st' := [.int (0 : Int32)]) (σ' := (S, M, O)) (rfl) ?_
        exact Ex_mono (L := [some (.ref 0), some (.int x1), some (.int x2)]) (Le_s (Le_s (Le_s (Le_0)))) (X_w_serves_38 hd ih _ _ _ _ _ hF) (Nat.le_refl _) (by omega)
      · rw [if_neg hc] at hF
        refine Ex_go 2 (pc' := 38) (L' := [some (.ref 0), some (.int x1), some (.int x2)]) (st' := [.int (1 : Int32)]) (σ' := (S, M, O)) (rfl) ?_
        exact Ex_mono (L := [some (.ref 0), some (.int x1), some (.int x2)]) (Le_s (Le_s (Le_s (Le_0)))) (X_w_serves_38 hd ih _ _ _ _ _ hF) (Nat.le_refl _) (by omega)
def F_w_serves (x1 : Int32) (S : Sto) : Option Int32 := F_w_serves_2 FU x1 (0 : Int32) S
set_option maxRecDepth 100000 in
theorem X_w_serves {nL : Nat} {xs : Nat → Int32} {M : Sto} {O : Sto} {d : Nat} (hd : 2 ≤ d) : ∀ (x1 : Int32) (S : Sto) (r : Int32), F_w_serves x1 S = some r → EX nL xs 0 MI_176 d 0 [some (.ref 0), some (.int x1), none] [] (S, M, O) (.inl (some (.int r))) (S, M, O) := by
  intro x1 S r hF
  unfold F_w_serves at hF
  refine Ex_go 2 (pc' := 2) (L' := [some (.ref 0), some (.int x1), some (.int (0 : Int32))]) (st' := []) (σ' := (S, M, O)) (rfl) ?_
  exact Ex_mono (L := [some (.ref 0), some (.int x1), some (.int (0 : Int32))]) (Le_s (Le_s (Le_s (Le_0)))) (X_w_serves_2 hd FU _ _ _ _ hF) (Nat.le_refl _) (by omega)
def F_j_bitCountI (x0 : Int32) : Option Int32 := nm (x0 - (((Int32.toUInt32 x0 >>> (Int32.toUInt32 (1 : Int32) &&& Int32.toUInt32 31)).toInt32) &&& (1431655765 : Int32))) (fun t1 => nm ((t1 &&& (858993459 : Int32)) + (((Int32.toUInt32 t1 >>> (Int32.toUInt32 (2 : Int32) &&& Int32.toUInt32 31)).toInt32) &&& (858993459 : Int32))) (fun t3 => nm ((t3 + ((Int32.toUInt32 t3 >>> (Int32.toUInt32 (4 : Int32) &&& Int32.toUInt32 31)).toInt32)) &&& (252645135 : Int32)) (fun t5 => nm (t5 + ((Int32.toUInt32 t5 >>> (Int32.toUInt32 (8 : Int32) &&& Int32.toUInt32 31)).toInt32)) (fun t7 => nm (t7 + ((Int32.toUInt32 t7 >>> (Int32.toUInt32 (16 : Int32) &&& Int32.toUInt32 31)).toInt32)) (fun t9 => some (t9 &&& (63 : Int32)))))))
set_option maxRecDepth 100000 in
theorem X_j_bitCountI {nL : Nat} {xs : Nat → Int32} {S : Sto} {M : Sto} {O : Sto} {d : Nat} (hd : 1 ≤ d) : ∀ (x0 : Int32) (r : Int32), F_j_bitCountI x0 = some r → EX nL xs 0 MI_144 d 0 [some (.int x0)] [] (S, M, O) (.inl (some (.int r))) (S, M, O) := by
  intro x0 r hF
  unfold F_j_bitCountI at hF
  obtain ⟨t1, ht2, hF⟩ := nm_i hF
  refine Ex_go 8 (pc' := 10) (L' := [some (.int t1)]) (st' := []) (σ' := (S, M, O)) (by rw [ht2]; rfl) ?_
  obtain ⟨t3, ht4, hF⟩ := nm_i hF
  refine Ex_go 10 (pc' := 24) (L' := [some (.int t3)]) (st' := []) (σ' := (S, M, O)) (by rw [ht4]; rfl) ?_
  obtain ⟨t5, ht6, hF⟩ := nm_i hF
  refine Ex_go 8 (pc' := 34) (L' := [some (.int t5)]) (st' := []) (σ' := (S, M, O)) (by rw [ht6]; rfl) ?_
  obtain ⟨t7, ht8, hF⟩ := nm_i hF
  refine Ex_go 6 (pc' := 41) (L' := [some (.int t7)]) (st' := []) (σ' := (S, M, O)) (by rw [ht8]; rfl) ?_
  obtain ⟨t9, ht10, hF⟩ := nm_i hF
  refine Ex_go 6 (pc' := 48) (L' := [some (.int t9)]) (st' := []) (σ' := (S, M, O)) (by rw [ht10]; rfl) ?_
  refine Ex_go 3 (pc' := 52) (L' := [some (.int t9)]) (st' := [.int (t9 &&& (63 : Int32))]) (σ' := (S, M, O)) (rfl) ?_
  cases hF
  exact Ex_fin rfl
def F_w_fewest_59 (k22 : Int32 → Int32 → Sto → Option (Int32 × Sto)) (x1 : Int32) (x2 : Int32) (S : Sto) : Option (Int32 × Sto) := k22 x1 (x2 + (1 : Int32)) S
set_option maxRecDepth 100000 in
theorem X_w_fewest_59 {nL : Nat} {xs : Nat → Int32} {M : Sto} {O : Sto} {d : Nat} (hd : 4 ≤ d) {k22 : Int32 → Int32 → Sto → Option (Int32 × Sto)} (hk22 : ∀ (x1 : Int32) (x2 : Int32) (S : Sto) (r : Int32) (S' : Sto), k22 x1 x2 S = some (r, S') → EX nL xs 0 MI_177 d 22 [some (.ref 0), some (.int x1), some (.int x2)] [] (S, M, O) (.inl (some (.int r))) (S', M, O)) : ∀ (x1 : Int32) (x2 : Int32) (S : Sto) (r : Int32) (S' : Sto), F_w_fewest_59 k22 x1 x2 S = some (r, S') → EX nL xs 0 MI_177 d 59 [some (.ref 0), some (.int x1), some (.int x2)] [] (S, M, O) (.inl (some (.int r))) (S', M, O) := by
  intro x1 x2 S r S' hF
  unfold F_w_fewest_59 at hF
  refine Ex_go 2 (pc' := 22) (L' := [some (.ref 0), some (.int x1), some (.int (x2 + (1 : Int32)))]) (st' := []) (σ' := (S, M, O)) (rfl) ?_
  exact Ex_mono (L := [some (.ref 0), some (.int x1), some (.int (x2 + (1 : Int32)))]) (Le_s (Le_s (Le_s (Le_0)))) (hk22 _ _ _ _ _ hF) (Nat.le_refl _) (by omega)
def F_w_fewest_49 (k22 : Int32 → Int32 → Sto → Option (Int32 × Sto)) (x1 : Int32) (x2 : Int32) (S : Sto) : Option (Int32 × Sto) := b1 (F_w_serves x2 S) (fun r1 => if r1 = 0 then F_w_fewest_59 k22 x1 x2 S else F_w_fewest_59 k22 x2 x2 S)
set_option maxRecDepth 100000 in
theorem X_w_fewest_49 {nL : Nat} {xs : Nat → Int32} {M : Sto} {O : Sto} {d : Nat} (hd : 4 ≤ d) {k22 : Int32 → Int32 → Sto → Option (Int32 × Sto)} (hk22 : ∀ (x1 : Int32) (x2 : Int32) (S : Sto) (r : Int32) (S' : Sto), k22 x1 x2 S = some (r, S') → EX nL xs 0 MI_177 d 22 [some (.ref 0), some (.int x1), some (.int x2)] [] (S, M, O) (.inl (some (.int r))) (S', M, O)) : ∀ (x1 : Int32) (x2 : Int32) (S : Sto) (r : Int32) (S' : Sto), F_w_fewest_49 k22 x1 x2 S = some (r, S') → EX nL xs 0 MI_177 d 49 [some (.ref 0), some (.int x1), some (.int x2)] [] (S, M, O) (.inl (some (.int r))) (S', M, O) := by
  intro x1 x2 S r S' hF
  unfold F_w_fewest_49 at hF
  refine Ex_go 2 (pc' := 51) (L' := [some (.ref 0), some (.int x1), some (.int x2)]) (st' := [.int x2, .ref 0]) (σ' := (S, M, O)) (rfl) ?_
  obtain ⟨r1, hx2, hF⟩ := b1_i hF
  refine Ex_call (kind := 2) (y := 176) (as := [.ref 0, .int x2]) (rest := []) (L0 := [some (.ref 0), some (.int x2), none]) (d' := 2) (v := some (.int r1)) (σ1 := (S, M, O)) rfl rfl mt_176 rfl rfl (by omega) (X_w_serves (Nat.le_refl _) _ _ _ hx2) (Ex_st (st2 := [.int r1]) rfl ?_)
  refine Ex_go 1 (pc' := if r1 = 0 then 59 else 57) (L' := [some (.ref 0), some (.int x1), some (.int x2)]) (st' := []) (σ' := (S, M, O)) (rfl) ?_
  refine Ex_br (fun hc => ?_) (fun hc => ?_)
  · rw [if_pos hc] at hF
    exact Ex_mono (L := [some (.ref 0), some (.int x1), some (.int x2)]) (Le_s (Le_s (Le_s (Le_0)))) (X_w_fewest_59 hd hk22 _ _ _ _ _ hF) (Nat.le_refl _) (by omega)
  · rw [if_neg hc] at hF
    refine Ex_go 2 (pc' := 59) (L' := [some (.ref 0), some (.int x2), some (.int x2)]) (st' := []) (σ' := (S, M, O)) (rfl) ?_
    exact Ex_mono (L := [some (.ref 0), some (.int x2), some (.int x2)]) (Le_s (Le_s (Le_s (Le_0)))) (X_w_fewest_59 hd hk22 _ _ _ _ _ hF) (Nat.le_refl _) (by omega)
def F_w_fewest_22 : Nat → Int32 → Int32 → Sto → Option (Int32 × Sto)
  | 0, _, _, _ => none
  | n + 1, x1, x2, S => if (gi S 25) ≤ x2 then some (x1, S) else if x1 = (-1 : Int32) then F_w_fewest_49 (F_w_fewest_22 n) x1 x2 S else b1 (F_j_bitCountI x2) (fun r1 => b1 (F_j_bitCountI x1) (fun r3 => if r3 ≤ r1 then F_w_fewest_59 (F_w_fewest_22 n) x1 x2 S else F_w_fewest_49 (F_w_fewest_22 n) x1 x2 S))
set_option maxRecDepth 100000 in
theorem X_w_fewest_22 {nL : Nat} {xs : Nat → Int32} {M : Sto} {O : Sto} {d : Nat} (hd : 4 ≤ d) : ∀ n : Nat, ∀ (x1 : Int32) (x2 : Int32) (S : Sto) (r : Int32) (S' : Sto), F_w_fewest_22 n x1 x2 S = some (r, S') → EX nL xs 0 MI_177 d 22 [some (.ref 0), some (.int x1), some (.int x2)] [] (S, M, O) (.inl (some (.int r))) (S', M, O) := by
  intro n
  induction n with
  | zero => intro x1 x2 S r S' hF; cases hF
  | succ n ih =>
  intro x1 x2 S r S' hF
  unfold F_w_fewest_22 at hF
  refine Ex_go 5 (pc' := if (gi S 25) ≤ x2 then 65 else 33) (L' := [some (.ref 0), some (.int x1), some (.int x2)]) (st' := []) (σ' := (S, M, O)) (rfl) ?_
  refine Ex_br (fun hc => ?_) (fun hc => ?_)
  · rw [if_pos hc] at hF
    refine Ex_go 1 (pc' := 66) (L' := [some (.ref 0), some (.int x1), some (.int x2)]) (st' := [.int x1]) (σ' := (S, M, O)) (rfl) ?_
    cases hF
    exact Ex_fin rfl
  · rw [if_neg hc] at hF
    refine Ex_go 3 (pc' := if x1 = (-1 : Int32) then 49 else 38) (L' := [some (.ref 0), some (.int x1), some (.int x2)]) (st' := []) (σ' := (S, M, O)) (rfl) ?_
    refine Ex_br (fun hc => ?_) (fun hc => ?_)
    · rw [if_pos hc] at hF
      exact Ex_mono (L := [some (.ref 0), some (.int x1), some (.int x2)]) (Le_s (Le_s (Le_s (Le_0)))) (X_w_fewest_49 hd ih _ _ _ _ _ hF) (Nat.le_refl _) (by omega)
    · rw [if_neg hc] at hF
      refine Ex_go 1 (pc' := 39) (L' := [some (.ref 0), some (.int x1), some (.int x2)]) (st' := [.int x2]) (σ' := (S, M, O)) (rfl) ?_
      obtain ⟨r1, hx2, hF⟩ := b1_i hF
      refine Ex_call (kind := 0) (y := 144) (as := [.int x2]) (rest := []) (L0 := [some (.int x2)]) (d' := 1) (v := some (.int r1)) (σ1 := (S, M, O)) rfl rfl mt_144 rfl rfl (by omega) (X_j_bitCountI (Nat.le_refl _) _ _ hx2) (Ex_st (st2 := [.int r1]) rfl ?_)
      refine Ex_go 1 (pc' := 43) (L' := [some (.ref 0), some (.int x1), some (.int x2)]) (st' := [.int x1, .int r1]) (σ' := (S, M, O)) (rfl) ?_
      obtain ⟨r3, hx4, hF⟩ := b1_i hF
      refine Ex_call (kind := 0) (y := 144) (as := [.int x1]) (rest := [.int r1]) (L0 := [some (.int x1)]) (d' := 1) (v := some (.int r3)) (σ1 := (S, M, O)) rfl rfl mt_144 rfl rfl (by omega) (X_j_bitCountI (Nat.le_refl _) _ _ hx4) (Ex_st (st2 := [.int r3, .int r1]) rfl ?_)
      refine Ex_go 1 (pc' := if r3 ≤ r1 then 59 else 49) (L' := [some (.ref 0), some (.int x1), some (.int x2)]) (st' := []) (σ' := (S, M, O)) (rfl) ?_
      refine Ex_br (fun hc => ?_) (fun hc => ?_)
      · rw [if_pos hc] at hF
        exact Ex_mono (L := [some (.ref 0), some (.int x1), some (.int x2)]) (Le_s (Le_s (Le_s (Le_0)))) (X_w_fewest_59 hd ih _ _ _ _ _ hF) (Nat.le_refl _) (by omega)
      · rw [if_neg hc] at hF
        exact Ex_mono (L := [some (.ref 0), some (.int x1), some (.int x2)]) (Le_s (Le_s (Le_s (Le_0)))) (X_w_fewest_49 hd ih _ _ _ _ _ hF) (Nat.le_refl _) (by omega)
def F_w_fewest (S : Sto) : Option (Int32 × Sto) := b2 (F_w_markCatchers_0_31 (gi S 32) S) (fun r1 S3 => F_w_fewest_22 FU (-1 : Int32) (0 : Int32) S3)
set_option maxRecDepth 100000 in
theorem X_w_fewest {nL : Nat} {xs : Nat → Int32} {M : Sto} {O : Sto} {d : Nat} (hd : 4 ≤ d) : ∀ (S : Sto) (r : Int32) (S' : Sto), F_w_fewest S = some (r, S') → EX nL xs 0 MI_177 d 0 [some (.ref 0), none, none] [] (S, M, O) (.inl (some (.int r))) (S', M, O) := by
  intro S r S' hF
  unfold F_w_fewest at hF
  refine Ex_go 7 (pc' := 15) (L' := [some (.ref 0), none, none]) (st' := [.int (gi S 32), .ref 31, .ref 0]) (σ' := (S, M, O)) (rfl) ?_
  obtain ⟨r1, S3, hx2, hF⟩ := b2_i hF
  refine Ex_call (kind := 2) (y := 174) (as := [.ref 0, .ref 31, .int (gi S 32)]) (rest := []) (L0 := [some (.ref 0), some (.ref 31), some (.int (gi S 32)), none]) (d' := 3) (v := none) (σ1 := (S3, M, O)) rfl rfl mt_174 rfl rfl (by omega) (X_w_markCatchers_0_31 (Nat.le_refl _) _ _ _ _ hx2) (Ex_st (st2 := []) rfl ?_)
  refine Ex_go 4 (pc' := 22) (L' := [some (.ref 0), some (.int (-1 : Int32)), some (.int (0 : Int32))]) (st' := []) (σ' := (S3, M, O)) (rfl) ?_
  exact Ex_mono (L := [some (.ref 0), some (.int (-1 : Int32)), some (.int (0 : Int32))]) (Le_s (Le_s (Le_s (Le_0)))) (X_w_fewest_22 hd FU _ _ _ _ _ hF) (Nat.le_refl _) (by omega)
def F_m_isAsWished_30 (k2 : Int32 → Int32 → Sto → Option Int32) (x1 : Int32) (x2 : Int32) (s0 : Int32) (M : Sto) : Option Int32 := ck (ib x2 12) (if s0 = (ai M 1018 (Int32.toNatClampNeg x2)) then k2 x1 (x2 + (1 : Int32)) M else some (0 : Int32))
set_option maxRecDepth 100000 in
theorem X_m_isAsWished_30 {nL : Nat} {xs : Nat → Int32} {S : Sto} {O : Sto} {d : Nat} (hd : 4 ≤ d) {k2 : Int32 → Int32 → Sto → Option Int32} (hk2 : ∀ (x1 : Int32) (x2 : Int32) (M : Sto) (r : Int32), k2 x1 x2 M = some r → EX nL xs 0 MI_178 d 2 [some (.ref 1000), some (.int x1), some (.int x2)] [] (S, M, O) (.inl (some (.int r))) (S, M, O)) : ∀ (x1 : Int32) (x2 : Int32) (s0 : Int32) (M : Sto) (r : Int32), F_m_isAsWished_30 k2 x1 x2 s0 M = some r → EX nL xs 0 MI_178 d 30 [some (.ref 1000), some (.int x1), some (.int x2)] [.int s0] (S, M, O) (.inl (some (.int r))) (S, M, O) := by
  intro x1 x2 s0 M r hF
  unfold F_m_isAsWished_30 at hF
  refine Ex_go 3 (pc' := 35) (L' := [some (.ref 1000), some (.int x1), some (.int x2)]) (st' := [.int x2, .ref 1018, .int s0]) (σ' := (S, M, O)) (rfl) ?_
  obtain ⟨hc1, hF⟩ := ck_i hF
  refine Ex_chk (b := ib x2 12) (pc' := 36) (L' := [some (.ref 1000), some (.int x1), some (.int x2)]) (st' := [.int (ai M 1018 (Int32.toNatClampNeg x2)), .int s0]) (σ' := (S, M, O)) rfl hc1 ?_
  refine Ex_go 1 (pc' := if s0 = (ai M 1018 (Int32.toNatClampNeg x2)) then 41 else 39) (L' := [some (.ref 1000), some (.int x1), some (.int x2)]) (st' := []) (σ' := (S, M, O)) (rfl) ?_
  refine Ex_br (fun hc => ?_) (fun hc => ?_)
  · rw [if_pos hc] at hF
    refine Ex_go 2 (pc' := 2) (L' := [some (.ref 1000), some (.int x1), some (.int (x2 + (1 : Int32)))]) (st' := []) (σ' := (S, M, O)) (rfl) ?_
    exact Ex_mono (L := [some (.ref 1000), some (.int x1), some (.int (x2 + (1 : Int32)))]) (Le_s (Le_s (Le_s (Le_0)))) (hk2 _ _ _ _ hF) (Nat.le_refl _) (by omega)
  · rw [if_neg hc] at hF
    refine Ex_go 1 (pc' := 40) (L' := [some (.ref 1000), some (.int x1), some (.int x2)]) (st' := [.int (0 : Int32)]) (σ' := (S, M, O)) (rfl) ?_
    cases hF
    exact Ex_fin rfl
def F_m_isAsWished_2 : Nat → Int32 → Int32 → Sto → Option Int32
  | 0, _, _, _ => none
  | n + 1, x1, x2, M => if (gi M 1019) ≤ x2 then some (1 : Int32) else ck (ib x2 12) (b1 (F_m_netsOf (al M 1016 (Int32.toNatClampNeg x2)) M) (fun r2 => if (r2 &&& x1) = 0 then F_m_isAsWished_30 (F_m_isAsWished_2 n) x1 x2 (0 : Int32) M else F_m_isAsWished_30 (F_m_isAsWished_2 n) x1 x2 (1 : Int32) M))
set_option maxRecDepth 100000 in
theorem X_m_isAsWished_2 {nL : Nat} {xs : Nat → Int32} {S : Sto} {O : Sto} {d : Nat} (hd : 4 ≤ d) : ∀ n : Nat, ∀ (x1 : Int32) (x2 : Int32) (M : Sto) (r : Int32), F_m_isAsWished_2 n x1 x2 M = some r → EX nL xs 0 MI_178 d 2 [some (.ref 1000), some (.int x1), some (.int x2)] [] (S, M, O) (.inl (some (.int r))) (S, M, O) := by
  intro n
  induction n with
  | zero => intro x1 x2 M r hF; cases hF
  | succ n ih =>
  intro x1 x2 M r hF
  unfold F_m_isAsWished_2 at hF
  refine Ex_go 4 (pc' := if (gi M 1019) ≤ x2 then 47 else 10) (L' := [some (.ref 1000), some (.int x1), some (.int x2)]) (st' := []) (σ' := (S, M, O)) (rfl) ?_
  refine Ex_br (fun hc => ?_) (fun hc => ?_)
  · rw [if_pos hc] at hF
    refine Ex_go 1 (pc' := 48) (L' := [some (.ref 1000), some (.int x1), some (.int x2)]) (st' := [.int (1 : Int32)]) (σ' := (S, M, O)) (rfl) ?_
    cases hF
    exact Ex_fin rfl
  · rw [if_neg hc] at hF
    refine Ex_go 4 (pc' := 16) (L' := [some (.ref 1000), some (.int x1), some (.int x2)]) (st' := [.int x2, .ref 1016, .ref 1000]) (σ' := (S, M, O)) (rfl) ?_
    obtain ⟨hc1, hF⟩ := ck_i hF
    refine Ex_chk (b := ib x2 12) (pc' := 17) (L' := [some (.ref 1000), some (.int x1), some (.int x2)]) (st' := [.long (al M 1016 (Int32.toNatClampNeg x2)), .ref 1000]) (σ' := (S, M, O)) rfl hc1 ?_
    obtain ⟨r2, hx3, hF⟩ := b1_i hF
    refine Ex_call (kind := 2) (y := 128) (as := [.ref 1000, .long (al M 1016 (Int32.toNatClampNeg x2))]) (rest := []) (L0 := [some (.ref 1000), some (.long (al M 1016 (Int32.toNatClampNeg x2))), none, none, none]) (d' := 3) (v := some (.int r2)) (σ1 := (S, M, O)) rfl rfl mt_128 rfl rfl (by omega) (X_m_netsOf (Nat.le_refl _) _ _ _ hx3) (Ex_st (st2 := [.int r2]) rfl ?_)
    refine Ex_go 3 (pc' := if (r2 &&& x1) = 0 then 29 else 25) (L' := [some (.ref 1000), some (.int x1), some (.int x2)]) (st' := []) (σ' := (S, M, O)) (rfl) ?_
    refine Ex_br (fun hc => ?_) (fun hc => ?_)
    · rw [if_pos hc] at hF
      refine Ex_go 1 (pc' := 30) (L' := [some (.ref 1000), some (.int x1), some (.int x2)]) (st' := [.int (0 : Int32)]) (σ' := (S, M, O)) (rfl) ?_
      exact Ex_mono (L := [some (.ref 1000), some (.int x1), some (.int x2)]) (Le_s (Le_s (Le_s (Le_0)))) (X_m_isAsWished_30 hd ih _ _ _ _ _ hF) (Nat.le_refl _) (by omega)
    · rw [if_neg hc] at hF
      refine Ex_go 2 (pc' := 30) (L' := [some (.ref 1000), some (.int x1), some (.int x2)]) (st' := [.int (1 : Int32)]) (σ' := (S, M, O)) (rfl) ?_
      exact Ex_mono (L := [some (.ref 1000), some (.int x1), some (.int x2)]) (Le_s (Le_s (Le_s (Le_0)))) (X_m_isAsWished_30 hd ih _ _ _ _ _ hF) (Nat.le_refl _) (by omega)
def F_m_isAsWished (x1 : Int32) (M : Sto) : Option Int32 := F_m_isAsWished_2 FU x1 (0 : Int32) M
set_option maxRecDepth 100000 in
theorem X_m_isAsWished {nL : Nat} {xs : Nat → Int32} {S : Sto} {O : Sto} {d : Nat} (hd : 4 ≤ d) : ∀ (x1 : Int32) (M : Sto) (r : Int32), F_m_isAsWished x1 M = some r → EX nL xs 0 MI_178 d 0 [some (.ref 1000), some (.int x1), none] [] (S, M, O) (.inl (some (.int r))) (S, M, O) := by
  intro x1 M r hF
  unfold F_m_isAsWished at hF
  refine Ex_go 2 (pc' := 2) (L' := [some (.ref 1000), some (.int x1), some (.int (0 : Int32))]) (st' := []) (σ' := (S, M, O)) (rfl) ?_
  exact Ex_mono (L := [some (.ref 1000), some (.int x1), some (.int (0 : Int32))]) (Le_s (Le_s (Le_s (Le_0)))) (X_m_isAsWished_2 hd FU _ _ _ _ hF) (Nat.le_refl _) (by omega)
def F_m_fewest_49 (k9 : Int32 → Int32 → Sto → Option (Int32 × Sto)) (x1 : Int32) (x2 : Int32) (M : Sto) : Option (Int32 × Sto) := k9 x1 (x2 + (1 : Int32)) M
set_option maxRecDepth 100000 in
theorem X_m_fewest_49 {nL : Nat} {xs : Nat → Int32} {S : Sto} {O : Sto} {d : Nat} (hd : 5 ≤ d) {k9 : Int32 → Int32 → Sto → Option (Int32 × Sto)} (hk9 : ∀ (x1 : Int32) (x2 : Int32) (M : Sto) (r : Int32) (M' : Sto), k9 x1 x2 M = some (r, M') → EX nL xs 0 MI_179 d 9 [some (.ref 1000), some (.int x1), some (.int x2)] [] (S, M, O) (.inl (some (.int r))) (S, M', O)) : ∀ (x1 : Int32) (x2 : Int32) (M : Sto) (r : Int32) (M' : Sto), F_m_fewest_49 k9 x1 x2 M = some (r, M') → EX nL xs 0 MI_179 d 49 [some (.ref 1000), some (.int x1), some (.int x2)] [] (S, M, O) (.inl (some (.int r))) (S, M', O) := by
  intro x1 x2 M r M' hF
  unfold F_m_fewest_49 at hF
  refine Ex_go 2 (pc' := 9) (L' := [some (.ref 1000), some (.int x1), some (.int (x2 + (1 : Int32)))]) (st' := []) (σ' := (S, M, O)) (rfl) ?_
  exact Ex_mono (L := [some (.ref 1000), some (.int x1), some (.int (x2 + (1 : Int32)))]) (Le_s (Le_s (Le_s (Le_0)))) (hk9 _ _ _ _ _ hF) (Nat.le_refl _) (by omega)
def F_m_fewest_39 (k9 : Int32 → Int32 → Sto → Option (Int32 × Sto)) (x1 : Int32) (x2 : Int32) (M : Sto) : Option (Int32 × Sto) := b1 (F_m_isAsWished x2 M) (fun r1 => if r1 = 0 then F_m_fewest_49 k9 x1 x2 M else F_m_fewest_49 k9 x2 x2 M)
set_option maxRecDepth 100000 in
theorem X_m_fewest_39 {nL : Nat} {xs : Nat → Int32} {S : Sto} {O : Sto} {d : Nat} (hd : 5 ≤ d) {k9 : Int32 → Int32 → Sto → Option (Int32 × Sto)} (hk9 : ∀ (x1 : Int32) (x2 : Int32) (M : Sto) (r : Int32) (M' : Sto), k9 x1 x2 M = some (r, M') → EX nL xs 0 MI_179 d 9 [some (.ref 1000), some (.int x1), some (.int x2)] [] (S, M, O) (.inl (some (.int r))) (S, M', O)) : ∀ (x1 : Int32) (x2 : Int32) (M : Sto) (r : Int32) (M' : Sto), F_m_fewest_39 k9 x1 x2 M = some (r, M') → EX nL xs 0 MI_179 d 39 [some (.ref 1000), some (.int x1), some (.int x2)] [] (S, M, O) (.inl (some (.int r))) (S, M', O) := by
  intro x1 x2 M r M' hF
  unfold F_m_fewest_39 at hF
  refine Ex_go 2 (pc' := 41) (L' := [some (.ref 1000), some (.int x1), some (.int x2)]) (st' := [.int x2, .ref 1000]) (σ' := (S, M, O)) (rfl) ?_
  obtain ⟨r1, hx2, hF⟩ := b1_i hF
  refine Ex_call (kind := 2) (y := 178) (as := [.ref 1000, .int x2]) (rest := []) (L0 := [some (.ref 1000), some (.int x2), none]) (d' := 4) (v := some (.int r1)) (σ1 := (S, M, O)) rfl rfl mt_178 rfl rfl (by omega) (X_m_isAsWished (Nat.le_refl _) _ _ _ hx2) (Ex_st (st2 := [.int r1]) rfl ?_)
  refine Ex_go 1 (pc' := if r1 = 0 then 49 else 47) (L' := [some (.ref 1000), some (.int x1), some (.int x2)]) (st' := []) (σ' := (S, M, O)) (rfl) ?_
  refine Ex_br (fun hc => ?_) (fun hc => ?_)
  · rw [if_pos hc] at hF
    exact Ex_mono (L := [some (.ref 1000), some (.int x1), some (.int x2)]) (Le_s (Le_s (Le_s (Le_0)))) (X_m_fewest_49 hd hk9 _ _ _ _ _ hF) (Nat.le_refl _) (by omega)
  · rw [if_neg hc] at hF
    refine Ex_go 2 (pc' := 49) (L' := [some (.ref 1000), some (.int x2), some (.int x2)]) (st' := []) (σ' := (S, M, O)) (rfl) ?_
    exact Ex_mono (L := [some (.ref 1000), some (.int x2), some (.int x2)]) (Le_s (Le_s (Le_s (Le_0)))) (X_m_fewest_49 hd hk9 _ _ _ _ _ hF) (Nat.le_refl _) (by omega)
def F_m_fewest_9 : Nat → Int32 → Int32 → Sto → Option (Int32 × Sto)
  | 0, _, _, _ => none
  | n + 1, x1, x2, M => if ((1 : Int32) <<< ((ai M 1003 (Int32.toNatClampNeg (0 : Int32))) &&& 31)) ≤ x2 then some (x1, M) else if x1 = (-1 : Int32) then F_m_fewest_39 (F_m_fewest_9 n) x1 x2 M else b1 (F_m_bitsOf (Int32.toInt64 x2)) (fun r1 => b1 (F_m_bitsOf (Int32.toInt64 x1)) (fun r3 => if r3 ≤ r1 then F_m_fewest_49 (F_m_fewest_9 n) x1 x2 M else F_m_fewest_39 (F_m_fewest_9 n) x1 x2 M))
set_option maxRecDepth 100000 in
theorem X_m_fewest_9 {nL : Nat} {xs : Nat → Int32} {S : Sto} {O : Sto} {d : Nat} (hd : 5 ≤ d) : ∀ n : Nat, ∀ (x1 : Int32) (x2 : Int32) (M : Sto) (r : Int32) (M' : Sto), F_m_fewest_9 n x1 x2 M = some (r, M') → EX nL xs 0 MI_179 d 9 [some (.ref 1000), some (.int x1), some (.int x2)] [] (S, M, O) (.inl (some (.int r))) (S, M', O) := by
  intro n
  induction n with
  | zero => intro x1 x2 M r M' hF; cases hF
  | succ n ih =>
  intro x1 x2 M r M' hF
  unfold F_m_fewest_9 at hF
  refine Ex_go 5 (pc' := 16) (L' := [some (.ref 1000), some (.int x1), some (.int x2)]) (st' := [.int (0 : Int32), .ref 1003, .int (1 : Int32), .int x2]) (σ' := (S, M, O)) (rfl) ?_
  refine Ex_chk (b := ib (0 : Int32) 6) (pc' := 17) (L' := [some (.ref 1000), some (.int x1), some (.int x2)]) (st' := [.int (ai M 1003 (Int32.toNatClampNeg (0 : Int32))), .int (1 : Int32), .int x2]) (σ' := (S, M, O)) rfl (by decide) ?_
  refine Ex_go 2 (pc' := if ((1 : Int32) <<< ((ai M 1003 (Int32.toNatClampNeg (0 : Int32))) &&& 31)) ≤ x2 then 55 else 21) (L' := [some (.ref 1000), some (.int x1), some (.int x2)]) (st' := []) (σ' := (S, M, O)) (rfl) ?_
  refine Ex_br (fun hc => ?_) (fun hc => ?_)
  · rw [if_pos hc] at hF
    refine Ex_go 1 (pc' := 56) (L' := [some (.ref 1000), some (.int x1), some (.int x2)]) (st' := [.int x1]) (σ' := (S, M, O)) (rfl) ?_
    cases hF
    exact Ex_fin rfl
  · rw [if_neg hc] at hF
    refine Ex_go 3 (pc' := if x1 = (-1 : Int32) then 39 else 26) (L' := [some (.ref 1000), some (.int x1), some (.int x2)]) (st' := []) (σ' := (S, M, O)) (rfl) ?_
    refine Ex_br (fun hc => ?_) (fun hc => ?_)
    · rw [if_pos hc] at hF
      exact Ex_mono (L := [some (.ref 1000), some (.int x1), some (.int x2)]) (Le_s (Le_s (Le_s (Le_0)))) (X_m_fewest_39 hd ih _ _ _ _ _ hF) (Nat.le_refl _) (by omega)
    · rw [if_neg hc] at hF
      refine Ex_go 2 (pc' := 28) (L' := [some (.ref 1000), some (.int x1), some (.int x2)]) (st' := [.long (Int32.toInt64 x2)]) (σ' := (S, M, O)) (rfl) ?_
      obtain ⟨r1, hx2, hF⟩ := b1_i hF
      refine Ex_call (kind := 0) (y := 85) (as := [.long (Int32.toInt64 x2)]) (rest := []) (L0 := [some (.long (Int32.toInt64 x2)), none, none, none, none]) (d' := 1) (v := some (.int r1)) (σ1 := (S, M, O)) rfl rfl mt_85 rfl rfl (by omega) (X_m_bitsOf (Nat.le_refl _) _ _ hx2) (Ex_st (st2 := [.int r1]) rfl ?_)
      refine Ex_go 2 (pc' := 33) (L' := [some (.ref 1000), some (.int x1), some (.int x2)]) (st' := [.long (Int32.toInt64 x1), .int r1]) (σ' := (S, M, O)) (rfl) ?_
      obtain ⟨r3, hx4, hF⟩ := b1_i hF
      refine Ex_call (kind := 0) (y := 85) (as := [.long (Int32.toInt64 x1)]) (rest := [.int r1]) (L0 := [some (.long (Int32.toInt64 x1)), none, none, none, none]) (d' := 1) (v := some (.int r3)) (σ1 := (S, M, O)) rfl rfl mt_85 rfl rfl (by omega) (X_m_bitsOf (Nat.le_refl _) _ _ hx4) (Ex_st (st2 := [.int r3, .int r1]) rfl ?_)
      refine Ex_go 1 (pc' := if r3 ≤ r1 then 49 else 39) (L' := [some (.ref 1000), some (.int x1), some (.int x2)]) (st' := []) (σ' := (S, M, O)) (rfl) ?_
      refine Ex_br (fun hc => ?_) (fun hc => ?_)
      · rw [if_pos hc] at hF
        exact Ex_mono (L := [some (.ref 1000), some (.int x1), some (.int x2)]) (Le_s (Le_s (Le_s (Le_0)))) (X_m_fewest_49 hd ih _ _ _ _ _ hF) (Nat.le_refl _) (by omega)
      · rw [if_neg hc] at hF
        exact Ex_mono (L := [some (.ref 1000), some (.int x1), some (.int x2)]) (Le_s (Le_s (Le_s (Le_0)))) (X_m_fewest_39 hd ih _ _ _ _ _ hF) (Nat.le_refl _) (by omega)
def F_m_fewest (M : Sto) : Option (Int32 × Sto) := F_m_fewest_9 FU (-1 : Int32) (0 : Int32) (si M 1001 (0 : Int32))
set_option maxRecDepth 100000 in
theorem X_m_fewest {nL : Nat} {xs : Nat → Int32} {S : Sto} {O : Sto} {d : Nat} (hd : 5 ≤ d) : ∀ (M : Sto) (r : Int32) (M' : Sto), F_m_fewest M = some (r, M') → EX nL xs 0 MI_179 d 0 [some (.ref 1000), none, none] [] (S, M, O) (.inl (some (.int r))) (S, M', O) := by
  intro M r M' hF
  unfold F_m_fewest at hF
  refine Ex_go 7 (pc' := 9) (L' := [some (.ref 1000), some (.int (-1 : Int32)), some (.int (0 : Int32))]) (st' := []) (σ' := (S, (si M 1001 (0 : Int32)), O)) (rfl) ?_
  exact Ex_mono (L := [some (.ref 1000), some (.int (-1 : Int32)), some (.int (0 : Int32))]) (Le_s (Le_s (Le_s (Le_0)))) (X_m_fewest_9 hd FU _ _ _ _ _ hF) (Nat.le_refl _) (by omega)
def F_w_forget (S : Sto) : Option (Unit × Sto) := some ((), (si (si S 32 (0 : Int32)) 33 (0 : Int32)))
set_option maxRecDepth 100000 in
theorem X_w_forget {nL : Nat} {xs : Nat → Int32} {M : Sto} {O : Sto} {d : Nat} (hd : 1 ≤ d) : ∀ (S : Sto) (r : Unit) (S' : Sto), F_w_forget S = some (r, S') → EX nL xs 0 MI_172 d 0 [some (.ref 0)] [] (S, M, O) (.inl none) (S', M, O) := by
  intro S r S' hF
  unfold F_w_forget at hF
  refine Ex_go 8 (pc' := 16) (L' := [some (.ref 0)]) (st' := []) (σ' := ((si (si S 32 (0 : Int32)) 33 (0 : Int32)), M, O)) (rfl) ?_
  cases hF
  exact Ex_fin rfl
def F_m_forget (M : Sto) : Option (Unit × Sto) := some ((), (si (si (si (si M 1001 (0 : Int32)) 1019 (0 : Int32)) 1020 (0 : Int32)) 1021 (0 : Int32)))
set_option maxRecDepth 100000 in
theorem X_m_forget {nL : Nat} {xs : Nat → Int32} {S : Sto} {O : Sto} {d : Nat} (hd : 1 ≤ d) : ∀ (M : Sto) (r : Unit) (M' : Sto), F_m_forget M = some (r, M') → EX nL xs 0 MI_173 d 0 [some (.ref 1000)] [] (S, M, O) (.inl none) (S, M', O) := by
  intro M r M' hF
  unfold F_m_forget at hF
  refine Ex_go 10 (pc' := 16) (L' := [some (.ref 1000)]) (st' := [.ref 1000]) (σ' := (S, (si (si (si M 1001 (0 : Int32)) 1019 (0 : Int32)) 1020 (0 : Int32)), O)) (rfl) ?_
  refine Ex_go 2 (pc' := 20) (L' := [some (.ref 1000)]) (st' := []) (σ' := (S, (si (si (si (si M 1001 (0 : Int32)) 1019 (0 : Int32)) 1020 (0 : Int32)) 1021 (0 : Int32)), O)) (rfl) ?_
  cases hF
  exact Ex_fin rfl
def F_Sc_addWish_21 : Nat → Int64 → Int32 → Int32 → Sto → Option (Int32 × Sto)
  | 0, _, _, _, _ => none
  | n + 1, x1, x3, x4, S => if (gi S 32) ≤ x4 then ck (ib (gi S 32) 12) (ck (ib (gi (ul S 31 (vp_updL (al S 31) (Int32.toNatClampNeg (gi S 32)) x1)) 32) 12) (some ((1 : Int32), (si (ui (ul S 31 (vp_updL (al S 31) (Int32.toNatClampNeg (gi S 32)) x1)) 32 (upd (ai (ul S 31 (vp_updL (al S 31) (Int32.toNatClampNeg (gi S 32)) x1)) 32) (Int32.toNatClampNeg (gi (ul S 31 (vp_updL (al S 31) (Int32.toNatClampNeg (gi S 32)) x1)) 32)) (vp_nar .boolean x3))) 32 ((gi (ui (ul S 31 (vp_updL (al S 31) (Int32.toNatClampNeg (gi S 32)) x1)) 32 (upd (ai (ul S 31 (vp_updL (al S 31) (Int32.toNatClampNeg (gi S 32)) x1)) 32) (Int32.toNatClampNeg (gi (ul S 31 (vp_updL (al S 31) (Int32.toNatClampNeg (gi S 32)) x1)) 32)) (vp_nar .boolean x3))) 32) + (1 : Int32)))))) else ck (ib x4 12) (if (al S 31 (Int32.toNatClampNeg x4)) = x1 then some ((0 : Int32), S) else F_Sc_addWish_21 n x1 x3 (x4 + (1 : Int32)) S)
set_option maxRecDepth 100000 in
theorem X_Sc_addWish_21 {nL : Nat} {xs : Nat → Int32} {M : Sto} {O : Sto} {d : Nat} (hd : 1 ≤ d) : ∀ n : Nat, ∀ (x1 : Int64) (x3 : Int32) (x4 : Int32) (S : Sto) (r : Int32) (S' : Sto), F_Sc_addWish_21 n x1 x3 x4 S = some (r, S') → EX nL xs 0 MI_169 d 21 [some (.ref 27), some (.long x1), none, some (.int x3), some (.int x4)] [] (S, M, O) (.inl (some (.int r))) (S', M, O) := by
  intro n
  induction n with
  | zero => intro x1 x3 x4 S r S' hF; cases hF
  | succ n ih =>
  intro x1 x3 x4 S r S' hF
  unfold F_Sc_addWish_21 at hF
  refine Ex_go 4 (pc' := if (gi S 32) ≤ x4 then 50 else 30) (L' := [some (.ref 27), some (.long x1), none, some (.int x3), some (.int x4)]) (st' := []) (σ' := (S, M, O)) (rfl) ?_
  refine Ex_br (fun hc => ?_) (fun hc => ?_)
  · rw [if_pos hc] at hF
    refine Ex_go 5 (pc' := 59) (L' := [some (.ref 27), some (.long x1), none, some (.int x3), some (.int x4)]) (st' := [.long x1, .int (gi S 32), .ref 31]) (σ' := (S, M, O)) (rfl) ?_
    obtain ⟨hc1, hF⟩ := ck_i hF
    refine Ex_chk (b := ib (gi S 32) 12) (pc' := 60) (L' := [some (.ref 27), some (.long x1), none, some (.int x3), some (.int x4)]) (st' := []) (σ' := ((ul S 31 (vp_updL (al S 31) (Int32.toNatClampNeg (gi S 32)) x1)), M, O)) rfl hc1 ?_
    refine Ex_go 5 (pc' := 69) (L' := [some (.ref 27), some (.long x1), none, some (.int x3), some (.int x4)]) (st' := [.int x3, .int (gi (ul S 31 (vp_updL (al S 31) (Int32.toNatClampNeg (gi S 32)) x1)) 32), .ref 32]) (σ' := ((ul S 31 (vp_updL (al S 31) (Int32.toNatClampNeg (gi S 32)) x1)), M, O)) (rfl) ?_
    obtain ⟨hc2, hF⟩ := ck_i hF
    refine Ex_chk (b := ib (gi (ul S 31 (vp_updL (al S 31) (Int32.toNatClampNeg (gi S 32)) x1)) 32) 12) (pc' := 70) (L' := [some (.ref 27), some (.long x1), none, some (.int x3), some (.int x4)]) (st' := []) (σ' := ((ui (ul S 31 (vp_updL (al S 31) (Int32.toNatClampNeg (gi S 32)) x1)) 32 (upd (ai (ul S 31 (vp_updL (al S 31) (Int32.toNatClampNeg (gi S 32)) x1)) 32) (Int32.toNatClampNeg (gi (ul S 31 (vp_updL (al S 31) (Int32.toNatClampNeg (gi S 32)) x1)) 32)) (vp_nar .boolean x3))), M, O)) rfl hc2 ?_
    refine Ex_go 7 (pc' := 81) (L' := [some (.ref 27), some (.long x1), none, some (.int x3), some (.int x4)]) (st' := [.int (1 : Int32)]) (σ' := ((si (ui (ul S 31 (vp_updL (al S 31) (Int32.toNatClampNeg (gi S 32)) x1)) 32 (upd (ai (ul S 31 (vp_updL (al S 31) (Int32.toNatClampNeg (gi S 32)) x1)) 32) (Int32.toNatClampNeg (gi (ul S 31 (vp_updL (al S 31) (Int32.toNatClampNeg (gi S 32)) x1)) 32)) (vp_nar .boolean x3))) 32 ((gi (ui (ul S 31 (vp_updL (al S 31) (Int32.toNatClampNeg (gi S 32)) x1)) 32 (upd (ai (ul S 31 (vp_updL (al S 31) (Int32.toNatClampNeg (gi S 32)) x1)) 32) (Int32.toNatClampNeg (gi (ul S 31 (vp_updL (al S 31) (Int32.toNatClampNeg (gi S 32)) x1)) 32)) (vp_nar .boolean x3))) 32) + (1 : Int32))), M, O)) (rfl) ?_
    cases hF
    exact Ex_fin rfl
  · rw [if_neg hc] at hF
    refine Ex_go 3 (pc' := 36) (L' := [some (.ref 27), some (.long x1), none, some (.int x3), some (.int x4)]) (st' := [.int x4, .ref 31]) (σ' := (S, M, O)) (rfl) ?_
    obtain ⟨hc3, hF⟩ := ck_i hF
    refine Ex_chk (b := ib x4 12) (pc' := 37) (L' := [some (.ref 27), some (.long x1), none, some (.int x3), some (.int x4)]) (st' := [.long (al S 31 (Int32.toNatClampNeg x4))]) (σ' := (S, M, O)) rfl hc3 ?_
    refine Ex_go 3 (pc' := if ¬ (lg_cmp (al S 31 (Int32.toNatClampNeg x4)) x1) = 0 then 44 else 42) (L' := [some (.ref 27), some (.long x1), none, some (.int x3), some (.int x4)]) (st' := []) (σ' := (S, M, O)) (rfl) ?_
    refine Ex_brNI lc_ne (fun hc => ?_) (fun hc => ?_)
    · rw [if_pos hc] at hF
      refine Ex_go 1 (pc' := 43) (L' := [some (.ref 27), some (.long x1), none, some (.int x3), some (.int x4)]) (st' := [.int (0 : Int32)]) (σ' := (S, M, O)) (rfl) ?_
      cases hF
      exact Ex_fin rfl
    · rw [if_neg hc] at hF
      refine Ex_go 2 (pc' := 21) (L' := [some (.ref 27), some (.long x1), none, some (.int x3), some (.int (x4 + (1 : Int32)))]) (st' := []) (σ' := (S, M, O)) (rfl) ?_
      exact Ex_mono (L := [some (.ref 27), some (.long x1), none, some (.int x3), some (.int (x4 + (1 : Int32)))]) (Le_s (Le_s (Le_n (Le_s (Le_s (Le_0)))))) (ih _ _ _ _ _ _ hF) (Nat.le_refl _) (by omega)
def F_Sc_addWish (x1 : Int64) (x3 : Int32) (S : Sto) : Option (Int32 × Sto) := if (gi S 32) < 0 then some ((0 : Int32), S) else if (gi S 32) < (12 : Int32) then F_Sc_addWish_21 FU x1 x3 (0 : Int32) S else some ((0 : Int32), S)
set_option maxRecDepth 100000 in
theorem X_Sc_addWish {nL : Nat} {xs : Nat → Int32} {M : Sto} {O : Sto} {d : Nat} (hd : 1 ≤ d) : ∀ (x1 : Int64) (x3 : Int32) (S : Sto) (r : Int32) (S' : Sto), F_Sc_addWish x1 x3 S = some (r, S') → EX nL xs 0 MI_169 d 0 [some (.ref 27), some (.long x1), none, some (.int x3), none] [] (S, M, O) (.inl (some (.int r))) (S', M, O) := by
  intro x1 x3 S r S' hF
  unfold F_Sc_addWish at hF
  refine Ex_go 3 (pc' := if (gi S 32) < 0 then 16 else 7) (L' := [some (.ref 27), some (.long x1), none, some (.int x3), none]) (st' := []) (σ' := (S, M, O)) (rfl) ?_
  refine Ex_br (fun hc => ?_) (fun hc => ?_)
  · rw [if_pos hc] at hF
    refine Ex_go 1 (pc' := 17) (L' := [some (.ref 27), some (.long x1), none, some (.int x3), none]) (st' := [.int (0 : Int32)]) (σ' := (S, M, O)) (rfl) ?_
    cases hF
    exact Ex_fin rfl
  · rw [if_neg hc] at hF
    refine Ex_go 4 (pc' := if (gi S 32) < (12 : Int32) then 18 else 16) (L' := [some (.ref 27), some (.long x1), none, some (.int x3), none]) (st' := []) (σ' := (S, M, O)) (rfl) ?_
    refine Ex_br (fun hc => ?_) (fun hc => ?_)
    · rw [if_pos hc] at hF
      refine Ex_go 2 (pc' := 21) (L' := [some (.ref 27), some (.long x1), none, some (.int x3), some (.int (0 : Int32))]) (st' := []) (σ' := (S, M, O)) (rfl) ?_
      exact Ex_mono (L := [some (.ref 27), some (.long x1), none, some (.int x3), some (.int (0 : Int32))]) (Le_s (Le_s (Le_n (Le_s (Le_s (Le_0)))))) (X_Sc_addWish_21 hd FU _ _ _ _ _ _ hF) (Nat.le_refl _) (by omega)
    · rw [if_neg hc] at hF
      refine Ex_go 1 (pc' := 17) (L' := [some (.ref 27), some (.long x1), none, some (.int x3), none]) (st' := [.int (0 : Int32)]) (σ' := (S, M, O)) (rfl) ?_
      cases hF
      exact Ex_fin rfl
def F_w_wish_19 (S : Sto) : Option (Int32 × Sto) := b2 (F_Sc_refuse (2 : Int32) S) (fun r1 S3 => some ((-1 : Int32), S3))
set_option maxRecDepth 100000 in
theorem X_w_wish_19 {nL : Nat} {xs : Nat → Int32} {M : Sto} {O : Sto} {d : Nat} (hd : 2 ≤ d) : ∀ (S : Sto) (r : Int32) (S' : Sto), F_w_wish_19 S = some (r, S') → EX nL xs 0 MI_170 d 19 [some (.ref 0), none, none, none] [] (S, M, O) (.inl (some (.int r))) (S', M, O) := by
  intro S r S' hF
  unfold F_w_wish_19 at hF
  refine Ex_go 3 (pc' := 24) (L' := [some (.ref 0), none, none, none]) (st' := [.int (2 : Int32), .ref 27]) (σ' := (S, M, O)) (rfl) ?_
  obtain ⟨r1, S3, hx2, hF⟩ := b2_i hF
  refine Ex_call (kind := 2) (y := 37) (as := [.ref 27, .int (2 : Int32)]) (rest := []) (L0 := [some (.ref 27), some (.int (2 : Int32))]) (d' := 1) (v := none) (σ1 := (S3, M, O)) rfl rfl mt_37 rfl rfl (by omega) (X_Sc_refuse (Nat.le_refl _) _ _ _ _ hx2) (Ex_st (st2 := []) rfl ?_)
  refine Ex_go 1 (pc' := 28) (L' := [some (.ref 0), none, none, none]) (st' := [.int (-1 : Int32)]) (σ' := (S3, M, O)) (rfl) ?_
  cases hF
  exact Ex_fin rfl
def F_w_wish (x1 : Int64) (x3 : Int32) (S : Sto) : Option (Int32 × Sto) := b1 (F_w_isNumber x1) (fun r1 => if r1 = 0 then F_w_wish_19 S else b2 (F_Sc_addWish x1 x3 S) (fun r3 S5 => if r3 = 0 then F_w_wish_19 S5 else some ((gi S5 32), S5)))
set_option maxRecDepth 100000 in
theorem X_w_wish {nL : Nat} {xs : Nat → Int32} {M : Sto} {O : Sto} {d : Nat} (hd : 2 ≤ d) : ∀ (x1 : Int64) (x3 : Int32) (S : Sto) (r : Int32) (S' : Sto), F_w_wish x1 x3 S = some (r, S') → EX nL xs 0 MI_170 d 0 [some (.ref 0), some (.long x1), none, some (.int x3)] [] (S, M, O) (.inl (some (.int r))) (S', M, O) := by
  intro x1 x3 S r S' hF
  unfold F_w_wish at hF
  refine Ex_go 1 (pc' := 1) (L' := [some (.ref 0), some (.long x1), none, some (.int x3)]) (st' := [.long x1]) (σ' := (S, M, O)) (rfl) ?_
  obtain ⟨r1, hx2, hF⟩ := b1_i hF
  refine Ex_call (kind := 0) (y := 98) (as := [.long x1]) (rest := []) (L0 := [some (.long x1), none]) (d' := 1) (v := some (.int r1)) (σ1 := (S, M, O)) rfl rfl mt_98 rfl rfl (by omega) (X_w_isNumber (Nat.le_refl _) _ _ hx2) (Ex_st (st2 := [.int r1]) rfl ?_)
  refine Ex_go 1 (pc' := if r1 = 0 then 19 else 7) (L' := [some (.ref 0), some (.long x1), none, some (.int x3)]) (st' := []) (σ' := (S, M, O)) (rfl) ?_
  refine Ex_br (fun hc => ?_) (fun hc => ?_)
  · rw [if_pos hc] at hF
    exact Ex_mono (L := [some (.ref 0), none, none, none]) (Le_s (Le_n (Le_n (Le_n (Le_0))))) (X_w_wish_19 hd _ _ _ hF) (Nat.le_refl _) (by omega)
  · rw [if_neg hc] at hF
    refine Ex_go 4 (pc' := 13) (L' := [some (.ref 0), some (.long x1), none, some (.int x3)]) (st' := [.int x3, .long x1, .ref 27]) (σ' := (S, M, O)) (rfl) ?_
    obtain ⟨r3, S5, hx4, hF⟩ := b2_i hF
    refine Ex_call (kind := 2) (y := 169) (as := [.ref 27, .long x1, .int x3]) (rest := []) (L0 := [some (.ref 27), some (.long x1), none, some (.int x3), none]) (d' := 1) (v := some (.int r3)) (σ1 := (S5, M, O)) rfl rfl mt_169 rfl rfl (by omega) (X_Sc_addWish (Nat.le_refl _) _ _ _ _ _ hx4) (Ex_st (st2 := [.int r3]) rfl ?_)
    refine Ex_go 1 (pc' := if ¬ r3 = 0 then 29 else 19) (L' := [some (.ref 0), some (.long x1), none, some (.int x3)]) (st' := []) (σ' := (S5, M, O)) (rfl) ?_
    refine Ex_brN (fun hc => ?_) (fun hc => ?_)
    · rw [if_pos hc] at hF
      exact Ex_mono (L := [some (.ref 0), none, none, none]) (Le_s (Le_n (Le_n (Le_n (Le_0))))) (X_w_wish_19 hd _ _ _ hF) (Nat.le_refl _) (by omega)
    · rw [if_neg hc] at hF
      refine Ex_go 3 (pc' := 36) (L' := [some (.ref 0), some (.long x1), none, some (.int x3)]) (st' := [.int (gi S5 32)]) (σ' := (S5, M, O)) (rfl) ?_
      cases hF
      exact Ex_fin rfl
