/-! ===== what the methods do, as functions, and that the small machine does it (printed by wip/whole/gen4.py) ===== -/
def F_w_undo (S : Sto) : Option (Int32 × Sto) := b2 (F_Sc_takeBack S) (fun r1 S3 => some (r1, S3))
set_option maxRecDepth 100000 in
theorem X_w_undo {nL : Nat} {xs : Nat → Int32} {M : Sto} {O : Sto} {d : Nat} (hd : 2 ≤ d) : ∀ (S : Sto) (r : Int32) (S' : Sto), F_w_undo S = some (r, S') → EX nL xs 0 MI_121 d 0 [some (.ref 0)] [] (S, M, O) (.inl (some (.int r))) (S', M, O) := by
  intro S r S' hF
  unfold F_w_undo at hF
  refine Ex_go 2 (pc' := 4) (L' := [some (.ref 0)]) (st' := [.ref 27]) (σ' := (S, M, O)) (rfl) ?_
  obtain ⟨r1, S3, hx2, hF⟩ := b2_i hF
  refine Ex_call (kind := 2) (y := 120) (as := [.ref 27]) (rest := []) (L0 := [some (.ref 27), none]) (d' := 1) (v := some (.int r1)) (σ1 := (S3, M, O)) rfl rfl mt_120 rfl rfl (by omega) (X_Sc_takeBack (Nat.le_refl _) _ _ _ hx2) (Ex_st (st2 := [.int r1]) rfl ?_)
  cases hF
  exact Ex_fin rfl
def F_m_unpack_1000_1012 (x2 : Int32) (M : Sto) : Option (Unit × Sto) := ck (ib x2 200) (ck (ib (x2 + (1 : Int32)) 200) (ck (ib (x2 + (2 : Int32)) 200) (ck (ib (x2 + (3 : Int32)) 200) (ck (ib (x2 + (4 : Int32)) 200) (some ((), (si (sl (si (sl (sl M 1013 (al M 1012 (Int32.toNatClampNeg x2))) 1014 (al (sl M 1013 (al M 1012 (Int32.toNatClampNeg x2))) 1012 (Int32.toNatClampNeg (x2 + (1 : Int32))))) 1016 (Int64.toInt32 (al (sl (sl M 1013 (al M 1012 (Int32.toNatClampNeg x2))) 1014 (al (sl M 1013 (al M 1012 (Int32.toNatClampNeg x2))) 1012 (Int32.toNatClampNeg (x2 + (1 : Int32))))) 1012 (Int32.toNatClampNeg (x2 + (2 : Int32)))))) 1015 (al (si (sl (sl M 1013 (al M 1012 (Int32.toNatClampNeg x2))) 1014 (al (sl M 1013 (al M 1012 (Int32.toNatClampNeg x2))) 1012 (Int32.toNatClampNeg (x2 + (1 : Int32))))) 1016 (Int64.toInt32 (al (sl (sl M 1013 (al M 1012 (Int32.toNatClampNeg x2))) 1014 (al (sl M 1013 (al M 1012 (Int32.toNatClampNeg x2))) 1012 (Int32.toNatClampNeg (x2 + (1 : Int32))))) 1012 (Int32.toNatClampNeg (x2 + (2 : Int32)))))) 1012 (Int32.toNatClampNeg (x2 + (3 : Int32))))) 1017 (Int64.toInt32 (al (sl (si (sl (sl M 1013 (al M 1012 (Int32.toNatClampNeg x2))) 1014 (al (sl M 1013 (al M 1012 (Int32.toNatClampNeg x2))) 1012 (Int32.toNatClampNeg (x2 + (1 : Int32))))) 1016 (Int64.toInt32 (al (sl (sl M 1013 (al M 1012 (Int32.toNatClampNeg x2))) 1014 (al (sl M 1013 (al M 1012 (Int32.toNatClampNeg x2))) 1012 (Int32.toNatClampNeg (x2 + (1 : Int32))))) 1012 (Int32.toNatClampNeg (x2 + (2 : Int32)))))) 1015 (al (si (sl (sl M 1013 (al M 1012 (Int32.toNatClampNeg x2))) 1014 (al (sl M 1013 (al M 1012 (Int32.toNatClampNeg x2))) 1012 (Int32.toNatClampNeg (x2 + (1 : Int32))))) 1016 (Int64.toInt32 (al (sl (sl M 1013 (al M 1012 (Int32.toNatClampNeg x2))) 1014 (al (sl M 1013 (al M 1012 (Int32.toNatClampNeg x2))) 1012 (Int32.toNatClampNeg (x2 + (1 : Int32))))) 1012 (Int32.toNatClampNeg (x2 + (2 : Int32)))))) 1012 (Int32.toNatClampNeg (x2 + (3 : Int32))))) 1012 (Int32.toNatClampNeg (x2 + (4 : Int32))))))))))))
set_option maxRecDepth 100000 in
theorem X_m_unpack_1000_1012 {nL : Nat} {xs : Nat → Int32} {S : Sto} {O : Sto} {d : Nat} (hd : 1 ≤ d) : ∀ (x2 : Int32) (M : Sto) (r : Unit) (M' : Sto), F_m_unpack_1000_1012 x2 M = some (r, M') → EX nL xs 0 MI_122 d 0 [some (.ref 1000), some (.ref 1012), some (.int x2)] [] (S, M, O) (.inl none) (S, M', O) := by
  intro x2 M r M' hF
  unfold F_m_unpack_1000_1012 at hF
  refine Ex_go 3 (pc' := 3) (L' := [some (.ref 1000), some (.ref 1012), some (.int x2)]) (st' := [.int x2, .ref 1012, .ref 1000]) (σ' := (S, M, O)) (rfl) ?_
  obtain ⟨hc1, hF⟩ := ck_i hF
  refine Ex_chk (b := ib x2 200) (pc' := 4) (L' := [some (.ref 1000), some (.ref 1012), some (.int x2)]) (st' := [.long (al M 1012 (Int32.toNatClampNeg x2)), .ref 1000]) (σ' := (S, M, O)) rfl hc1 ?_
  refine Ex_go 6 (pc' := 12) (L' := [some (.ref 1000), some (.ref 1012), some (.int x2)]) (st' := [.int (x2 + (1 : Int32)), .ref 1012, .ref 1000]) (σ' := (S, (sl M 1013 (al M 1012 (Int32.toNatClampNeg x2))), O)) (rfl) ?_
  obtain ⟨hc2, hF⟩ := ck_i hF
  refine Ex_chk (b := ib (x2 + (1 : Int32)) 200) (pc' := 13) (L' := [some (.ref 1000), some (.ref 1012), some (.int x2)]) (st' := [.long (al (sl M 1013 (al M 1012 (Int32.toNatClampNeg x2))) 1012 (Int32.toNatClampNeg (x2 + (1 : Int32)))), .ref 1000]) (σ' := (S, (sl M 1013 (al M 1012 (Int32.toNatClampNeg x2))), O)) rfl hc2 ?_
  refine Ex_go 6 (pc' := 21) (L' := [some (.ref 1000), some (.ref 1012), some (.int x2)]) (st' := [.int (x2 + (2 : Int32)), .ref 1012, .ref 1000]) (σ' := (S, (sl (sl M 1013 (al M 1012 (Int32.toNatClampNeg x2))) 1014 (al (sl M 1013 (al M 1012 (Int32.toNatClampNeg x2))) 1012 (Int32.toNatClampNeg (x2 + (1 : Int32))))), O)) (rfl) ?_
  obtain ⟨hc3, hF⟩ := ck_i hF
  refine Ex_chk (b := ib (x2 + (2 : Int32)) 200) (pc' := 22) (L' := [some (.ref 1000), some (.ref 1012), some (.int x2)]) (st' := [.long (al (sl (sl M 1013 (al M 1012 (Int32.toNatClampNeg x2))) 1014 (al (sl M 1013 (al M 1012 (Int32.toNatClampNeg x2))) 1012 (Int32.toNatClampNeg (x2 + (1 : Int32))))) 1012 (Int32.toNatClampNeg (x2 + (2 : Int32)))), .ref 1000]) (σ' := (S, (sl (sl M 1013 (al M 1012 (Int32.toNatClampNeg x2))) 1014 (al (sl M 1013 (al M 1012 (Int32.toNatClampNeg x2))) 1012 (Int32.toNatClampNeg (x2 + (1 : Int32))))), O)) rfl hc3 ?_
  refine Ex_go 7 (pc' := 31) (L' := [some (.ref 1000), some (.ref 1012), some (.int x2)]) (st' := [.int (x2 + (3 : Int32)), .ref 1012, .ref 1000]) (σ' := (S, (si (sl (sl M 1013 (al M 1012 (Int32.toNatClampNeg x2))) 1014 (al (sl M 1013 (al M 1012 (Int32.toNatClampNeg x2))) 1012 (Int32.toNatClampNeg (x2 + (1 : Int32))))) 1016 (Int64.toInt32 (al (sl (sl M 1013 (al M 1012 (Int32.toNatClampNeg x2))) 1014 (al (sl M 1013 (al M 1012 (Int32.toNatClampNeg x2))) 1012 (Int32.toNatClampNeg (x2 + (1 : Int32))))) 1012 (Int32.toNatClampNeg (x2 + (2 : Int32)))))), O)) (rfl) ?_
  obtain ⟨hc4, hF⟩ := ck_i hF
  refine Ex_chk (b := ib (x2 + (3 : Int32)) 200) (pc' := 32) (L' := [some (.ref 1000), some (.ref 1012), some (.int x2)]) (st' := [.long (al (si (sl (sl M 1013 (al M 1012 (Int32.toNatClampNeg x2))) 1014 (al (sl M 1013 (al M 1012 (Int32.toNatClampNeg x2))) 1012 (Int32.toNatClampNeg (x2 + (1 : Int32))))) 1016 (Int64.toInt32 (al (sl (sl M 1013 (al M 1012 (Int32.toNatClampNeg x2))) 1014 (al (sl M 1013 (al M 1012 (Int32.toNatClampNeg x2))) 1012 (Int32.toNatClampNeg (x2 + (1 : Int32))))) 1012 (Int32.toNatClampNeg (x2 + (2 : Int32)))))) 1012 (Int32.toNatClampNeg (x2 + (3 : Int32)))), .ref 1000]) (σ' := (S, (si (sl (sl M 1013 (al M 1012 (Int32.toNatClampNeg x2))) 1014 (al (sl M 1013 (al M 1012 (Int32.toNatClampNeg x2))) 1012 (Int32.toNatClampNeg (x2 + (1 : Int32))))) 1016 (Int64.toInt32 (al (sl (sl M 1013 (al M 1012 (Int32.toNatClampNeg x2))) 1014 (al (sl M 1013 (al M 1012 (Int32.toNatClampNeg x2))) 1012 (Int32.toNatClampNeg (x2 + (1 : Int32))))) 1012 (Int32.toNatClampNeg (x2 + (2 : Int32)))))), O)) rfl hc4 ?_
  refine Ex_go 6 (pc' := 40) (L' := [some (.ref 1000), some (.ref 1012), some (.int x2)]) (st' := [.int (x2 + (4 : Int32)), .ref 1012, .ref 1000]) (σ' := (S, (sl (si (sl (sl M 1013 (al M 1012 (Int32.toNatClampNeg x2))) 1014 (al (sl M 1013 (al M 1012 (Int32.toNatClampNeg x2))) 1012 (Int32.toNatClampNeg (x2 + (1 : Int32))))) 1016 (Int64.toInt32 (al (sl (sl M 1013 (al M 1012 (Int32.toNatClampNeg x2))) 1014 (al (sl M 1013 (al M 1012 (Int32.toNatClampNeg x2))) 1012 (Int32.toNatClampNeg (x2 + (1 : Int32))))) 1012 (Int32.toNatClampNeg (x2 + (2 : Int32)))))) 1015 (al (si (sl (sl M 1013 (al M 1012 (Int32.toNatClampNeg x2))) 1014 (al (sl M 1013 (al M 1012 (Int32.toNatClampNeg x2))) 1012 (Int32.toNatClampNeg (x2 + (1 : Int32))))) 1016 (Int64.toInt32 (al (sl (sl M 1013 (al M 1012 (Int32.toNatClampNeg x2))) 1014 (al (sl M 1013 (al M 1012 (Int32.toNatClampNeg x2))) 1012 (Int32.toNatClampNeg (x2 + (1 : Int32))))) 1012 (Int32.toNatClampNeg (x2 + (2 : Int32)))))) 1012 (Int32.toNatClampNeg (x2 + (3 : Int32))))), O)) (rfl) ?_
  obtain ⟨hc5, hF⟩ := ck_i hF
  refine Ex_chk (b := ib (x2 + (4 : Int32)) 200) (pc' := 41) (L' := [some (.ref 1000), some (.ref 1012), some (.int x2)]) (st' := [.long (al (sl (si (sl (sl M 1013 (al M 1012 (Int32.toNatClampNeg x2))) 1014 (al (sl M 1013 (al M 1012 (Int32.toNatClampNeg x2))) 1012 (Int32.toNatClampNeg (x2 + (1 : Int32))))) 1016 (Int64.toInt32 (al (sl (sl M 1013 (al M 1012 (Int32.toNatClampNeg x2))) 1014 (al (sl M 1013 (al M 1012 (Int32.toNatClampNeg x2))) 1012 (Int32.toNatClampNeg (x2 + (1 : Int32))))) 1012 (Int32.toNatClampNeg (x2 + (2 : Int32)))))) 1015 (al (si (sl (sl M 1013 (al M 1012 (Int32.toNatClampNeg x2))) 1014 (al (sl M 1013 (al M 1012 (Int32.toNatClampNeg x2))) 1012 (Int32.toNatClampNeg (x2 + (1 : Int32))))) 1016 (Int64.toInt32 (al (sl (sl M 1013 (al M 1012 (Int32.toNatClampNeg x2))) 1014 (al (sl M 1013 (al M 1012 (Int32.toNatClampNeg x2))) 1012 (Int32.toNatClampNeg (x2 + (1 : Int32))))) 1012 (Int32.toNatClampNeg (x2 + (2 : Int32)))))) 1012 (Int32.toNatClampNeg (x2 + (3 : Int32))))) 1012 (Int32.toNatClampNeg (x2 + (4 : Int32)))), .ref 1000]) (σ' := (S, (sl (si (sl (sl M 1013 (al M 1012 (Int32.toNatClampNeg x2))) 1014 (al (sl M 1013 (al M 1012 (Int32.toNatClampNeg x2))) 1012 (Int32.toNatClampNeg (x2 + (1 : Int32))))) 1016 (Int64.toInt32 (al (sl (sl M 1013 (al M 1012 (Int32.toNatClampNeg x2))) 1014 (al (sl M 1013 (al M 1012 (Int32.toNatClampNeg x2))) 1012 (Int32.toNatClampNeg (x2 + (1 : Int32))))) 1012 (Int32.toNatClampNeg (x2 + (2 : Int32)))))) 1015 (al (si (sl (sl M 1013 (al M 1012 (Int32.toNatClampNeg x2))) 1014 (al (sl M 1013 (al M 1012 (Int32.toNatClampNeg x2))) 1012 (Int32.toNatClampNeg (x2 + (1 : Int32))))) 1016 (Int64.toInt32 (al (sl (sl M 1013 (al M 1012 (Int32.toNatClampNeg x2))) 1014 (al (sl M 1013 (al M 1012 (Int32.toNatClampNeg x2))) 1012 (Int32.toNatClampNeg (x2 + (1 : Int32))))) 1012 (Int32.toNatClampNeg (x2 + (2 : Int32)))))) 1012 (Int32.toNatClampNeg (x2 + (3 : Int32))))), O)) rfl hc5 ?_
  refine Ex_go 2 (pc' := 45) (L' := [some (.ref 1000), some (.ref 1012), some (.int x2)]) (st' := []) (σ' := (S, (si (sl (si (sl (sl M 1013 (al M 1012 (Int32.toNatClampNeg x2))) 1014 (al (sl M 1013 (al M 1012 (Int32.toNatClampNeg x2))) 1012 (Int32.toNatClampNeg (x2 + (1 : Int32))))) 1016 (Int64.toInt32 (al (sl (sl M 1013 (al M 1012 (Int32.toNatClampNeg x2))) 1014 (al (sl M 1013 (al M 1012 (Int32.toNatClampNeg x2))) 1012 (Int32.toNatClampNeg (x2 + (1 : Int32))))) 1012 (Int32.toNatClampNeg (x2 + (2 : Int32)))))) 1015 (al (si (sl (sl M 1013 (al M 1012 (Int32.toNatClampNeg x2))) 1014 (al (sl M 1013 (al M 1012 (Int32.toNatClampNeg x2))) 1012 (Int32.toNatClampNeg (x2 + (1 : Int32))))) 1016 (Int64.toInt32 (al (sl (sl M 1013 (al M 1012 (Int32.toNatClampNeg x2))) 1014 (al (sl M 1013 (al M 1012 (Int32.toNatClampNeg x2))) 1012 (Int32.toNatClampNeg (x2 + (1 : Int32))))) 1012 (Int32.toNatClampNeg (x2 + (2 : Int32)))))) 1012 (Int32.toNatClampNeg (x2 + (3 : Int32))))) 1017 (Int64.toInt32 (al (sl (si (sl (sl M 1013 (al M 1012 (Int32.toNatClampNeg x2))) 1014 (al (sl M 1013 (al M 1012 (Int32.toNatClampNeg x2))) 1012 (Int32.toNatClampNeg (x2 + (1 : Int32))))) 1016 (Int64.toInt32 (al (sl (sl M 1013 (al M 1012 (Int32.toNatClampNeg x2))) 1014 (al (sl M 1013 (al M 1012 (Int32.toNatClampNeg x2))) 1012 (Int32.toNatClampNeg (x2 + (1 : Int32))))) 1012 (Int32.toNatClampNeg (x2 + (2 : Int32)))))) 1015 (al (si (sl (sl M 1013 (al M 1012 (Int32.toNatClampNeg x2))) 1014 (al (sl M 1013 (al M 1012 (Int32.toNatClampNeg x2))) 1012 (Int32.toNatClampNeg (x2 + (1 : Int32))))) 1016 (Int64.toInt32 (al (sl (sl M 1013 (al M 1012 (Int32.toNatClampNeg x2))) 1014 (al (sl M 1013 (al M 1012 (Int32.toNatClampNeg x2))) 1012 (Int32.toNatClampNeg (x2 + (1 : Int32))))) 1012 (Int32.toNatClampNeg (x2 + (2 : Int32)))))) 1012 (Int32.toNatClampNeg (x2 + (3 : Int32))))) 1012 (Int32.toNatClampNeg (x2 + (4 : Int32)))))), O)) (rfl) ?_
  cases hF
  exact Ex_fin rfl
def F_m_undo (M : Sto) : Option (Int32 × Sto) := if (gi (si M 1001 (0 : Int32)) 1018) = 0 then some ((-1 : Int32), (si M 1001 (0 : Int32))) else b2 (F_m_unpack_1000_1012 ((5 : Int32) * (gi (si (si M 1001 (0 : Int32)) 1018 ((gi (si M 1001 (0 : Int32)) 1018) - (1 : Int32))) 1018)) (si (si M 1001 (0 : Int32)) 1018 ((gi (si M 1001 (0 : Int32)) 1018) - (1 : Int32)))) (fun r1 M3 => some ((gi M3 1018), M3))
set_option maxRecDepth 100000 in
theorem X_m_undo {nL : Nat} {xs : Nat → Int32} {S : Sto} {O : Sto} {d : Nat} (hd : 2 ≤ d) : ∀ (M : Sto) (r : Int32) (M' : Sto), F_m_undo M = some (r, M') → EX nL xs 0 MI_123 d 0 [some (.ref 1000)] [] (S, M, O) (.inl (some (.int r))) (S, M', O) := by
  intro M r M' hF
  unfold F_m_undo at hF
  refine Ex_go 6 (pc' := if ¬ (gi (si M 1001 (0 : Int32)) 1018) = 0 then 14 else 12) (L' := [some (.ref 1000)]) (st' := []) (σ' := (S, (si M 1001 (0 : Int32)), O)) (rfl) ?_
  refine Ex_brN (fun hc => ?_) (fun hc => ?_)
  · rw [if_pos hc] at hF
    refine Ex_go 1 (pc' := 13) (L' := [some (.ref 1000)]) (st' := [.int (-1 : Int32)]) (σ' := (S, (si M 1001 (0 : Int32)), O)) (rfl) ?_
    cases hF
    exact Ex_fin rfl
  · rw [if_neg hc] at hF
    refine Ex_go 10 (pc' := 30) (L' := [some (.ref 1000)]) (st' := [.int (5 : Int32), .ref 1012, .ref 1000]) (σ' := (S, (si (si M 1001 (0 : Int32)) 1018 ((gi (si M 1001 (0 : Int32)) 1018) - (1 : Int32))), O)) (rfl) ?_
    refine Ex_go 3 (pc' := 35) (L' := [some (.ref 1000)]) (st' := [.int ((5 : Int32) * (gi (si (si M 1001 (0 : Int32)) 1018 ((gi (si M 1001 (0 : Int32)) 1018) - (1 : Int32))) 1018)), .ref 1012, .ref 1000]) (σ' := (S, (si (si M 1001 (0 : Int32)) 1018 ((gi (si M 1001 (0 : Int32)) 1018) - (1 : Int32))), O)) (rfl) ?_
    obtain ⟨r1, M3, hx2, hF⟩ := b2_i hF
    refine Ex_call (kind := 2) (y := 122) (as := [.ref 1000, .ref 1012, .int ((5 : Int32) * (gi (si (si M 1001 (0 : Int32)) 1018 ((gi (si M 1001 (0 : Int32)) 1018) - (1 : Int32))) 1018))]) (rest := []) (L0 := [some (.ref 1000), some (.ref 1012), some (.int ((5 : Int32) * (gi (si (si M 1001 (0 : Int32)) 1018 ((gi (si M 1001 (0 : Int32)) 1018) - (1 : Int32))) 1018)))]) (d' := 1) (v := none) (σ1 := (S, M3, O)) rfl rfl mt_122 rfl rfl (by omega) (X_m_unpack_1000_1012 (Nat.le_refl _) _ _ _ _ hx2) (Ex_st (st2 := []) rfl ?_)
    refine Ex_go 2 (pc' := 42) (L' := [some (.ref 1000)]) (st' := [.int (gi M3 1018)]) (σ' := (S, M3, O)) (rfl) ?_
    cases hF
    exact Ex_fin rfl
def F_Sc_keepAct_79 (x1 : Int32) (x2 : Int64) (x4 : Int64) (S : Sto) : Option (Unit × Sto) := if (gi S 31) < 0 then some ((), S) else if (40 : Int32) ≤ (gi S 31) then some ((), S) else ck (ib (gi S 31) 40) (ck (ib (gi (ui S 28 (upd (ai S 28) (Int32.toNatClampNeg (gi S 31)) x1)) 31) 40) (ck (ib (gi (ul (ui S 28 (upd (ai S 28) (Int32.toNatClampNeg (gi S 31)) x1)) 29 (vp_updL (al (ui S 28 (upd (ai S 28) (Int32.toNatClampNeg (gi S 31)) x1)) 29) (Int32.toNatClampNeg (gi (ui S 28 (upd (ai S 28) (Int32.toNatClampNeg (gi S 31)) x1)) 31)) x2)) 31) 40) (some ((), (si (ul (ul (ui S 28 (upd (ai S 28) (Int32.toNatClampNeg (gi S 31)) x1)) 29 (vp_updL (al (ui S 28 (upd (ai S 28) (Int32.toNatClampNeg (gi S 31)) x1)) 29) (Int32.toNatClampNeg (gi (ui S 28 (upd (ai S 28) (Int32.toNatClampNeg (gi S 31)) x1)) 31)) x2)) 30 (vp_updL (al (ul (ui S 28 (upd (ai S 28) (Int32.toNatClampNeg (gi S 31)) x1)) 29 (vp_updL (al (ui S 28 (upd (ai S 28) (Int32.toNatClampNeg (gi S 31)) x1)) 29) (Int32.toNatClampNeg (gi (ui S 28 (upd (ai S 28) (Int32.toNatClampNeg (gi S 31)) x1)) 31)) x2)) 30) (Int32.toNatClampNeg (gi (ul (ui S 28 (upd (ai S 28) (Int32.toNatClampNeg (gi S 31)) x1)) 29 (vp_updL (al (ui S 28 (upd (ai S 28) (Int32.toNatClampNeg (gi S 31)) x1)) 29) (Int32.toNatClampNeg (gi (ui S 28 (upd (ai S 28) (Int32.toNatClampNeg (gi S 31)) x1)) 31)) x2)) 31)) x4)) 31 ((gi (ul (ul (ui S 28 (upd (ai S 28) (Int32.toNatClampNeg (gi S 31)) x1)) 29 (vp_updL (al (ui S 28 (upd (ai S 28) (Int32.toNatClampNeg (gi S 31)) x1)) 29) (Int32.toNatClampNeg (gi (ui S 28 (upd (ai S 28) (Int32.toNatClampNeg (gi S 31)) x1)) 31)) x2)) 30 (vp_updL (al (ul (ui S 28 (upd (ai S 28) (Int32.toNatClampNeg (gi S 31)) x1)) 29 (vp_updL (al (ui S 28 (upd (ai S 28) (Int32.toNatClampNeg (gi S 31)) x1)) 29) (Int32.toNatClampNeg (gi (ui S 28 (upd (ai S 28) (Int32.toNatClampNeg (gi S 31)) x1)) 31)) x2)) 30) (Int32.toNatClampNeg (gi (ul (ui S 28 (upd (ai S 28) (Int32.toNatClampNeg (gi S 31)) x1)) 29 (vp_updL (al (ui S 28 (upd (ai S 28) (Int32.toNatClampNeg (gi S 31)) x1)) 29) (Int32.toNatClampNeg (gi (ui S 28 (upd (ai S 28) (Int32.toNatClampNeg (gi S 31)) x1)) 31)) x2)) 31)) x4)) 31) + (1 : Int32)))))))
set_option maxRecDepth 100000 in
theorem X_Sc_keepAct_79 {nL : Nat} {xs : Nat → Int32} {M : Sto} {O : Sto} {d : Nat} (hd : 1 ≤ d) : ∀ (x1 : Int32) (x2 : Int64) (x4 : Int64) (S : Sto) (r : Unit) (S' : Sto), F_Sc_keepAct_79 x1 x2 x4 S = some (r, S') → EX nL xs 0 MI_99 d 79 [some (.ref 27), some (.int x1), some (.long x2), none, some (.long x4), none, none] [] (S, M, O) (.inl none) (S', M, O) := by
  intro x1 x2 x4 S r S' hF
  unfold F_Sc_keepAct_79 at hF
  refine Ex_go 3 (pc' := if (gi S 31) < 0 then 136 else 86) (L' := [some (.ref 27), some (.int x1), some (.long x2), none, some (.long x4), none, none]) (st' := []) (σ' := (S, M, O)) (rfl) ?_
  refine Ex_br (fun hc => ?_) (fun hc => ?_)
  · rw [if_pos hc] at hF
    cases hF
    exact Ex_fin rfl
  · rw [if_neg hc] at hF
    refine Ex_go 4 (pc' := if (40 : Int32) ≤ (gi S 31) then 136 else 95) (L' := [some (.ref 27), some (.int x1), some (.long x2), none, some (.long x4), none, none]) (st' := []) (σ' := (S, M, O)) (rfl) ?_
    refine Ex_br (fun hc => ?_) (fun hc => ?_)
    · rw [if_pos hc] at hF
      cases hF
      exact Ex_fin rfl
    · rw [if_neg hc] at hF
      refine Ex_go 5 (pc' := 104) (L' := [some (.ref 27), some (.int x1), some (.long x2), none, some (.long x4), none, none]) (st' := [.int x1, .int (gi S 31), .ref 28]) (σ' := (S, M, O)) (rfl) ?_
      obtain ⟨hc1, hF⟩ := ck_i hF
      refine Ex_chk (b := ib (gi S 31) 40) (pc' := 105) (L' := [some (.ref 27), some (.int x1), some (.long x2), none, some (.long x4), none, none]) (st' := []) (σ' := ((ui S 28 (upd (ai S 28) (Int32.toNatClampNeg (gi S 31)) x1)), M, O)) rfl hc1 ?_
      refine Ex_go 5 (pc' := 114) (L' := [some (.ref 27), some (.int x1), some (.long x2), none, some (.long x4), none, none]) (st' := [.long x2, .int (gi (ui S 28 (upd (ai S 28) (Int32.toNatClampNeg (gi S 31)) x1)) 31), .ref 29]) (σ' := ((ui S 28 (upd (ai S 28) (Int32.toNatClampNeg (gi S 31)) x1)), M, O)) (rfl) ?_
      obtain ⟨hc2, hF⟩ := ck_i hF
      refine Ex_chk (b := ib (gi (ui S 28 (upd (ai S 28) (Int32.toNatClampNeg (gi S 31)) x1)) 31) 40) (pc' := 115) (L' := [some (.ref 27), some (.int x1), some (.long x2), none, some (.long x4), none, none]) (st' := []) (σ' := ((ul (ui S 28 (upd (ai S 28) (Int32.toNatClampNeg (gi S 31)) x1)) 29 (vp_updL (al (ui S 28 (upd (ai S 28) (Int32.toNatClampNeg (gi S 31)) x1)) 29) (Int32.toNatClampNeg (gi (ui S 28 (upd (ai S 28) (Int32.toNatClampNeg (gi S 31)) x1)) 31)) x2)), M, O)) rfl hc2 ?_
      refine Ex_go 5 (pc' := 125) (L' := [some (.ref 27), some (.int x1), some (.long x2), none, some (.long x4), none, none]) (st' := [.long x4, .int (gi (ul (ui S 28 (upd (ai S 28) (Int32.toNatClampNeg (gi S 31)) x1)) 29 (vp_updL (al (ui S 28 (upd (ai S 28) (Int32.toNatClampNeg (gi S 31)) x1)) 29) (Int32.toNatClampNeg (gi (ui S 28 (upd (ai S 28) (Int32.toNatClampNeg (gi S 31)) x1)) 31)) x2)) 31), .ref 30]) (σ' := ((ul (ui S 28 (upd (ai S 28) (Int32.toNatClampNeg (gi S 31)) x1)) 29 (vp_updL (al (ui S 28 (upd (ai S 28) (Int32.toNatClampNeg (gi S 31)) x1)) 29) (Int32.toNatClampNeg (gi (ui S 28 (upd (ai S 28) (Int32.toNatClampNeg (gi S 31)) x1)) 31)) x2)), M, O)) (rfl) ?_
      obtain ⟨hc3, hF⟩ := ck_i hF
      refine Ex_chk (b := ib (gi (ul (ui S 28 (upd (ai S 28) (Int32.toNatClampNeg (gi S 31)) x1)) 29 (vp_updL (al (ui S 28 (upd (ai S 28) (Int32.toNatClampNeg (gi S 31)) x1)) 29) (Int32.toNatClampNeg (gi (ui S 28 (upd (ai S 28) (Int32.toNatClampNeg (gi S 31)) x1)) 31)) x2)) 31) 40) (pc' := 126) (L' := [some (.ref 27), some (.int x1), some (.long x2), none, some (.long x4), none, none]) (st' := []) (σ' := ((ul (ul (ui S 28 (upd (ai S 28) (Int32.toNatClampNeg (gi S 31)) x1)) 29 (vp_updL (al (ui S 28 (upd (ai S 28) (Int32.toNatClampNeg (gi S 31)) x1)) 29) (Int32.toNatClampNeg (gi (ui S 28 (upd (ai S 28) (Int32.toNatClampNeg (gi S 31)) x1)) 31)) x2)) 30 (vp_updL (al (ul (ui S 28 (upd (ai S 28) (Int32.toNatClampNeg (gi S 31)) x1)) 29 (vp_updL (al (ui S 28 (upd (ai S 28) (Int32.toNatClampNeg (gi S 31)) x1)) 29) (Int32.toNatClampNeg (gi (ui S 28 (upd (ai S 28) (Int32.toNatClampNeg (gi S 31)) x1)) 31)) x2)) 30) (Int32.toNatClampNeg (gi (ul (ui S 28 (upd (ai S 28) (Int32.toNatClampNeg (gi S 31)) x1)) 29 (vp_updL (al (ui S 28 (upd (ai S 28) (Int32.toNatClampNeg (gi S 31)) x1)) 29) (Int32.toNatClampNeg (gi (ui S 28 (upd (ai S 28) (Int32.toNatClampNeg (gi S 31)) x1)) 31)) x2)) 31)) x4)), M, O)) rfl hc3 ?_
      refine Ex_go 6 (pc' := 136) (L' := [some (.ref 27), some (.int x1), some (.long x2), none, some (.long x4), none, none]) (st' := []) (σ' := ((si (ul (ul (ui S 28 (upd (ai S 28) (Int32.toNatClampNeg (gi S 31)) x1)) 29 (vp_updL (al (ui S 28 (upd (ai S 28) (Int32.toNatClampNeg (gi S 31)) x1)) 29) (Int32.toNatClampNeg (gi (ui S 28 (upd (ai S 28) (Int32.toNatClampNeg (gi S 31)) x1)) 31)) x2)) 30 (vp_updL (al (ul (ui S 28 (upd (ai S 28) (Int32.toNatClampNeg (gi S 31)) x1)) 29 (vp_updL (al (ui S 28 (upd (ai S 28) (Int32.toNatClampNeg (gi S 31)) x1)) 29) (Int32.toNatClampNeg (gi (ui S 28 (upd (ai S 28) (Int32.toNatClampNeg (gi S 31)) x1)) 31)) x2)) 30) (Int32.toNatClampNeg (gi (ul (ui S 28 (upd (ai S 28) (Int32.toNatClampNeg (gi S 31)) x1)) 29 (vp_updL (al (ui S 28 (upd (ai S 28) (Int32.toNatClampNeg (gi S 31)) x1)) 29) (Int32.toNatClampNeg (gi (ui S 28 (upd (ai S 28) (Int32.toNatClampNeg (gi S 31)) x1)) 31)) x2)) 31)) x4)) 31 ((gi (ul (ul (ui S 28 (upd (ai S 28) (Int32.toNatClampNeg (gi S 31)) x1)) 29 (vp_updL (al (ui S 28 (upd (ai S 28) (Int32.toNatClampNeg (gi S 31)) x1)) 29) (Int32.toNatClampNeg (gi (ui S 28 (upd (ai S 28) (Int32.toNatClampNeg (gi S 31)) x1)) 31)) x2)) 30 (vp_updL (al (ul (ui S 28 (upd (ai S 28) (Int32.toNatClampNeg (gi S 31)) x1)) 29 (vp_updL (al (ui S 28 (upd (ai S 28) (Int32.toNatClampNeg (gi S 31)) x1)) 29) (Int32.toNatClampNeg (gi (ui S 28 (upd (ai S 28) (Int32.toNatClampNeg (gi S 31)) x1)) 31)) x2)) 30) (Int32.toNatClampNeg (gi (ul (ui S 28 (upd (ai S 28) (Int32.toNatClampNeg (gi S 31)) x1)) 29 (vp_updL (al (ui S 28 (upd (ai S 28) (Int32.toNatClampNeg (gi S 31)) x1)) 29) (Int32.toNatClampNeg (gi (ui S 28 (upd (ai S 28) (Int32.toNatClampNeg (gi S 31)) x1)) 31)) x2)) 31)) x4)) 31) + (1 : Int32))), M, O)) (rfl) ?_
      cases hF
      exact Ex_fin rfl
def F_Sc_keepAct_12 : Nat → Int32 → Int64 → Int64 → Int32 → Sto → Option (Unit × Sto)
  | 0, _, _, _, _, _ => none
  | n + 1, x1, x2, x4, x6, S => if (40 : Int32) ≤ x6 then F_Sc_keepAct_79 x1 x2 x4 (si S 31 (39 : Int32)) else ck (ib x6 40) (ck (ib (x6 - (1 : Int32)) 40) (ck (ib x6 40) (ck (ib (x6 - (1 : Int32)) 40) (ck (ib x6 40) (ck (ib (x6 - (1 : Int32)) 40) (F_Sc_keepAct_12 n x1 x2 x4 (x6 + (1 : Int32)) (ul (ul (ui S 28 (upd (ai S 28) (Int32.toNatClampNeg (x6 - (1 : Int32))) (ai S 28 (Int32.toNatClampNeg x6)))) 29 (vp_updL (al (ui S 28 (upd (ai S 28) (Int32.toNatClampNeg (x6 - (1 : Int32))) (ai S 28 (Int32.toNatClampNeg x6)))) 29) (Int32.toNatClampNeg (x6 - (1 : Int32))) (al (ui S 28 (upd (ai S 28) (Int32.toNatClampNeg (x6 - (1 : Int32))) (ai S 28 (Int32.toNatClampNeg x6)))) 29 (Int32.toNatClampNeg x6)))) 30 (vp_updL (al (ul (ui S 28 (upd (ai S 28) (Int32.toNatClampNeg (x6 - (1 : Int32))) (ai S 28 (Int32.toNatClampNeg x6)))) 29 (vp_updL (al (ui S 28 (upd (ai S 28) (Int32.toNatClampNeg (x6 - (1 : Int32))) (ai S 28 (Int32.toNatClampNeg x6)))) 29) (Int32.toNatClampNeg (x6 - (1 : Int32))) (al (ui S 28 (upd (ai S 28) (Int32.toNatClampNeg (x6 - (1 : Int32))) (ai S 28 (Int32.toNatClampNeg x6)))) 29 (Int32.toNatClampNeg x6)))) 30) (Int32.toNatClampNeg (x6 - (1 : Int32))) (al (ul (ui S 28 (upd (ai S 28) (Int32.toNatClampNeg (x6 - (1 : Int32))) (ai S 28 (Int32.toNatClampNeg x6)))) 29 (vp_updL (al (ui S 28 (upd (ai S 28) (Int32.toNatClampNeg (x6 - (1 : Int32))) (ai S 28 (Int32.toNatClampNeg x6)))) 29) (Int32.toNatClampNeg (x6 - (1 : Int32))) (al (ui S 28 (upd (ai S 28) (Int32.toNatClampNeg (x6 - (1 : Int32))) (ai S 28 (Int32.toNatClampNeg x6)))) 29 (Int32.toNatClampNeg x6)))) 30 (Int32.toNatClampNeg x6))))))))))
set_option maxRecDepth 100000 in
theorem X_Sc_keepAct_12 {nL : Nat} {xs : Nat → Int32} {M : Sto} {O : Sto} {d : Nat} (hd : 1 ≤ d) : ∀ n : Nat, ∀ (x1 : Int32) (x2 : Int64) (x4 : Int64) (x6 : Int32) (S : Sto) (r : Unit) (S' : Sto), F_Sc_keepAct_12 n x1 x2 x4 x6 S = some (r, S') → EX nL xs 0 MI_99 d 12 [some (.ref 27), some (.int x1), some (.long x2), none, some (.long x4), none, some (.int x6)] [] (S, M, O) (.inl none) (S', M, O) := by
  intro n
  induction n with
  | zero => intro x1 x2 x4 x6 S r S' hF; cases hF
  | succ n ih =>
  intro x1 x2 x4 x6 S r S' hF
  unfold F_Sc_keepAct_12 at hF
  refine Ex_go 3 (pc' := if (40 : Int32) ≤ x6 then 73 else 19) (L' := [some (.ref 27), some (.int x1), some (.long x2), none, some (.long x4), none, some (.int x6)]) (st' := []) (σ' := (S, M, O)) (rfl) ?_
  refine Ex_br (fun hc => ?_) (fun hc => ?_)
  · rw [if_pos hc] at hF
    refine Ex_go 3 (pc' := 79) (L' := [some (.ref 27), some (.int x1), some (.long x2), none, some (.long x4), none, some (.int x6)]) (st' := []) (σ' := ((si S 31 (39 : Int32)), M, O)) (rfl) ?_
    exact Ex_mono (L := [some (.ref 27), some (.int x1), some (.long x2), none, some (.long x4), none, none]) (Le_s (Le_s (Le_s (Le_n (Le_s (Le_n (Le_n (Le_0)))))))) (X_Sc_keepAct_79 hd _ _ _ _ _ _ hF) (Nat.le_refl _) (by omega)
  · rw [if_neg hc] at hF
    refine Ex_go 8 (pc' := 33) (L' := [some (.ref 27), some (.int x1), some (.long x2), none, some (.long x4), none, some (.int x6)]) (st' := [.int x6, .ref 28, .int (x6 - (1 : Int32)), .ref 28]) (σ' := (S, M, O)) (rfl) ?_
    obtain ⟨hc1, hF⟩ := ck_i hF
    refine Ex_chk (b := ib x6 40) (pc' := 34) (L' := [some (.ref 27), some (.int x1), some (.long x2), none, some (.long x4), none, some (.int x6)]) (st' := [.int (ai S 28 (Int32.toNatClampNeg x6)), .int (x6 - (1 : Int32)), .ref 28]) (σ' := (S, M, O)) rfl hc1 ?_
    obtain ⟨hc2, hF⟩ := ck_i hF
    refine Ex_chk (b := ib (x6 - (1 : Int32)) 40) (pc' := 35) (L' := [some (.ref 27), some (.int x1), some (.long x2), none, some (.long x4), none, some (.int x6)]) (st' := []) (σ' := ((ui S 28 (upd (ai S 28) (Int32.toNatClampNeg (x6 - (1 : Int32))) (ai S 28 (Int32.toNatClampNeg x6)))), M, O)) rfl hc2 ?_
    refine Ex_go 8 (pc' := 49) (L' := [some (.ref 27), some (.int x1), some (.long x2), none, some (.long x4), none, some (.int x6)]) (st' := [.int x6, .ref 29, .int (x6 - (1 : Int32)), .ref 29]) (σ' := ((ui S 28 (upd (ai S 28) (Int32.toNatClampNeg (x6 - (1 : Int32))) (ai S 28 (Int32.toNatClampNeg x6)))), M, O)) (rfl) ?_
    obtain ⟨hc3, hF⟩ := ck_i hF
    refine Ex_chk (b := ib x6 40) (pc' := 50) (L' := [some (.ref 27), some (.int x1), some (.long x2), none, some (.long x4), none, some (.int x6)]) (st' := [.long (al (ui S 28 (upd (ai S 28) (Int32.toNatClampNeg (x6 - (1 : Int32))) (ai S 28 (Int32.toNatClampNeg x6)))) 29 (Int32.toNatClampNeg x6)), .int (x6 - (1 : Int32)), .ref 29]) (σ' := ((ui S 28 (upd (ai S 28) (Int32.toNatClampNeg (x6 - (1 : Int32))) (ai S 28 (Int32.toNatClampNeg x6)))), M, O)) rfl hc3 ?_
    obtain ⟨hc4, hF⟩ := ck_i hF
    refine Ex_chk (b := ib (x6 - (1 : Int32)) 40) (pc' := 51) (L' := [some (.ref 27), some (.int x1), some (.long x2), none, some (.long x4), none, some (.int x6)]) (st' := []) (σ' := ((ul (ui S 28 (upd (ai S 28) (Int32.toNatClampNeg (x6 - (1 : Int32))) (ai S 28 (Int32.toNatClampNeg x6)))) 29 (vp_updL (al (ui S 28 (upd (ai S 28) (Int32.toNatClampNeg (x6 - (1 : Int32))) (ai S 28 (Int32.toNatClampNeg x6)))) 29) (Int32.toNatClampNeg (x6 - (1 : Int32))) (al (ui S 28 (upd (ai S 28) (Int32.toNatClampNeg (x6 - (1 : Int32))) (ai S 28 (Int32.toNatClampNeg x6)))) 29 (Int32.toNatClampNeg x6)))), M, O)) rfl hc4 ?_
    refine Ex_go 8 (pc' := 65) (L' := [some (.ref 27), some (.int x1), some (.long x2), none, some (.long x4), none, some (.int x6)]) (st' := [.int x6, .ref 30, .int (x6 - (1 : Int32)), .ref 30]) (σ' := ((ul (ui S 28 (upd (ai S 28) (Int32.toNatClampNeg (x6 - (1 : Int32))) (ai S 28 (Int32.toNatClampNeg x6)))) 29 (vp_updL (al (ui S 28 (upd (ai S 28) (Int32.toNatClampNeg (x6 - (1 : Int32))) (ai S 28 (Int32.toNatClampNeg x6)))) 29) (Int32.toNatClampNeg (x6 - (1 : Int32))) (al (ui S 28 (upd (ai S 28) (Int32.toNatClampNeg (x6 - (1 : Int32))) (ai S 28 (Int32.toNatClampNeg x6)))) 29 (Int32.toNatClampNeg x6)))), M, O)) (rfl) ?_
    obtain ⟨hc5, hF⟩ := ck_i hF
    refine Ex_chk (b := ib x6 40) (pc' := 66) (L' := [some (.ref 27), some (.int x1), some (.long x2), none, some (.long x4), none, some (.int x6)]) (st' := [.long (al (ul (ui S 28 (upd (ai S 28) (Int32.toNatClampNeg (x6 - (1 : Int32))) (ai S 28 (Int32.toNatClampNeg x6)))) 29 (vp_updL (al (ui S 28 (upd (ai S 28) (Int32.toNatClampNeg (x6 - (1 : Int32))) (ai S 28 (Int32.toNatClampNeg x6)))) 29) (Int32.toNatClampNeg (x6 - (1 : Int32))) (al (ui S 28 (upd (ai S 28) (Int32.toNatClampNeg (x6 - (1 : Int32))) (ai S 28 (Int32.toNatClampNeg x6)))) 29 (Int32.toNatClampNeg x6)))) 30 (Int32.toNatClampNeg x6)), .int (x6 - (1 : Int32)), .ref 30]) (σ' := ((ul (ui S 28 (upd (ai S 28) (Int32.toNatClampNeg (x6 - (1 : Int32))) (ai S 28 (Int32.toNatClampNeg x6)))) 29 (vp_updL (al (ui S 28 (upd (ai S 28) (Int32.toNatClampNeg (x6 - (1 : Int32))) (ai S 28 (Int32.toNatClampNeg x6)))) 29) (Int32.toNatClampNeg (x6 - (1 : Int32))) (al (ui S 28 (upd (ai S 28) (Int32.toNatClampNeg (x6 - (1 : Int32))) (ai S 28 (Int32.toNatClampNeg x6)))) 29 (Int32.toNatClampNeg x6)))), M, O)) rfl hc5 ?_
    obtain ⟨hc6, hF⟩ := ck_i hF
    refine Ex_chk (b := ib (x6 - (1 : Int32)) 40) (pc' := 67) (L' := [some (.ref 27), some (.int x1), some (.long x2), none, some (.long x4), none, some (.int x6)]) (st' := []) (σ' := ((ul (ul (ui S 28 (upd (ai S 28) (Int32.toNatClampNeg (x6 - (1 : Int32))) (ai S 28 (Int32.toNatClampNeg x6)))) 29 (vp_updL (al (ui S 28 (upd (ai S 28) (Int32.toNatClampNeg (x6 - (1 : Int32))) (ai S 28 (Int32.toNatClampNeg x6)))) 29) (Int32.toNatClampNeg (x6 - (1 : Int32))) (al (ui S 28 (upd (ai S 28) (Int32.toNatClampNeg (x6 - (1 : Int32))) (ai S 28 (Int32.toNatClampNeg x6)))) 29 (Int32.toNatClampNeg x6)))) 30 (vp_updL (al (ul (ui S 28 (upd (ai S 28) (Int32.toNatClampNeg (x6 - (1 : Int32))) (ai S 28 (Int32.toNatClampNeg x6)))) 29 (vp_updL (al (ui S 28 (upd (ai S 28) (Int32.toNatClampNeg (x6 - (1 : Int32))) (ai S 28 (Int32.toNatClampNeg x6)))) 29) (Int32.toNatClampNeg (x6 - (1 : Int32))) (al (ui S 28 (upd (ai S 28) (Int32.toNatClampNeg (x6 - (1 : Int32))) (ai S 28 (Int32.toNatClampNeg x6)))) 29 (Int32.toNatClampNeg x6)))) 30) (Int32.toNatClampNeg (x6 - (1 : Int32))) (al (ul (ui S 28 (upd (ai S 28) (Int32.toNatClampNeg (x6 - (1 : Int32))) (ai S 28 (Int32.toNatClampNeg x6)))) 29 (vp_updL (al (ui S 28 (upd (ai S 28) (Int32.toNatClampNeg (x6 - (1 : Int32))) (ai S 28 (Int32.toNatClampNeg x6)))) 29) (Int32.toNatClampNeg (x6 - (1 : Int32))) (al (ui S 28 (upd (ai S 28) (Int32.toNatClampNeg (x6 - (1 : Int32))) (ai S 28 (Int32.toNatClampNeg x6)))) 29 (Int32.toNatClampNeg x6)))) 30 (Int32.toNatClampNeg x6)))), M, O)) rfl hc6 ?_
    refine Ex_go 2 (pc' := 12) (L' := [some (.ref 27), some (.int x1), some (.long x2), none, some (.long x4), none, some (.int (x6 + (1 : Int32)))]) (st' := []) (σ' := ((ul (ul (ui S 28 (upd (ai S 28) (Int32.toNatClampNeg (x6 - (1 : Int32))) (ai S 28 (Int32.toNatClampNeg x6)))) 29 (vp_updL (al (ui S 28 (upd (ai S 28) (Int32.toNatClampNeg (x6 - (1 : Int32))) (ai S 28 (Int32.toNatClampNeg x6)))) 29) (Int32.toNatClampNeg (x6 - (1 : Int32))) (al (ui S 28 (upd (ai S 28) (Int32.toNatClampNeg (x6 - (1 : Int32))) (ai S 28 (Int32.toNatClampNeg x6)))) 29 (Int32.toNatClampNeg x6)))) 30 (vp_updL (al (ul (ui S 28 (upd (ai S 28) (Int32.toNatClampNeg (x6 - (1 : Int32))) (ai S 28 (Int32.toNatClampNeg x6)))) 29 (vp_updL (al (ui S 28 (upd (ai S 28) (Int32.toNatClampNeg (x6 - (1 : Int32))) (ai S 28 (Int32.toNatClampNeg x6)))) 29) (Int32.toNatClampNeg (x6 - (1 : Int32))) (al (ui S 28 (upd (ai S 28) (Int32.toNatClampNeg (x6 - (1 : Int32))) (ai S 28 (Int32.toNatClampNeg x6)))) 29 (Int32.toNatClampNeg x6)))) 30) (Int32.toNatClampNeg (x6 - (1 : Int32))) (al (ul (ui S 28 (upd (ai S 28) (Int32.toNatClampNeg (x6 - (1 : Int32))) (ai S 28 (Int32.toNatClampNeg x6)))) 29 (vp_updL (al (ui S 28 (upd (ai S 28) (Int32.toNatClampNeg (x6 - (1 : Int32))) (ai S 28 (Int32.toNatClampNeg x6)))) 29) (Int32.toNatClampNeg (x6 - (1 : Int32))) (al (ui S 28 (upd (ai S 28) (Int32.toNatClampNeg (x6 - (1 : Int32))) (ai S 28 (Int32.toNatClampNeg x6)))) 29 (Int32.toNatClampNeg x6)))) 30 (Int32.toNatClampNeg x6)))), M, O)) (rfl) ?_
    exact Ex_mono (L := [some (.ref 27), some (.int x1), some (.long x2), none, some (.long x4), none, some (.int (x6 + (1 : Int32)))]) (Le_s (Le_s (Le_s (Le_n (Le_s (Le_n (Le_s (Le_0)))))))) (ih _ _ _ _ _ _ _ hF) (Nat.le_refl _) (by omega)
def F_Sc_keepAct (x1 : Int32) (x2 : Int64) (x4 : Int64) (S : Sto) : Option (Unit × Sto) := if (gi S 31) < (40 : Int32) then F_Sc_keepAct_79 x1 x2 x4 S else F_Sc_keepAct_12 FU x1 x2 x4 (1 : Int32) S
set_option maxRecDepth 100000 in
theorem X_Sc_keepAct {nL : Nat} {xs : Nat → Int32} {M : Sto} {O : Sto} {d : Nat} (hd : 1 ≤ d) : ∀ (x1 : Int32) (x2 : Int64) (x4 : Int64) (S : Sto) (r : Unit) (S' : Sto), F_Sc_keepAct x1 x2 x4 S = some (r, S') → EX nL xs 0 MI_99 d 0 [some (.ref 27), some (.int x1), some (.long x2), none, some (.long x4), none, none] [] (S, M, O) (.inl none) (S', M, O) := by
  intro x1 x2 x4 S r S' hF
  unfold F_Sc_keepAct at hF
  refine Ex_go 4 (pc' := if (gi S 31) < (40 : Int32) then 79 else 9) (L' := [some (.ref 27), some (.int x1), some (.long x2), none, some (.long x4), none, none]) (st' := []) (σ' := (S, M, O)) (rfl) ?_
  refine Ex_br (fun hc => ?_) (fun hc => ?_)
  · rw [if_pos hc] at hF
    exact Ex_mono (L := [some (.ref 27), some (.int x1), some (.long x2), none, some (.long x4), none, none]) (Le_s (Le_s (Le_s (Le_n (Le_s (Le_n (Le_n (Le_0)))))))) (X_Sc_keepAct_79 hd _ _ _ _ _ _ hF) (Nat.le_refl _) (by omega)
  · rw [if_neg hc] at hF
    refine Ex_go 2 (pc' := 12) (L' := [some (.ref 27), some (.int x1), some (.long x2), none, some (.long x4), none, some (.int (1 : Int32))]) (st' := []) (σ' := (S, M, O)) (rfl) ?_
    exact Ex_mono (L := [some (.ref 27), some (.int x1), some (.long x2), none, some (.long x4), none, some (.int (1 : Int32))]) (Le_s (Le_s (Le_s (Le_n (Le_s (Le_n (Le_s (Le_0)))))))) (X_Sc_keepAct_12 hd FU _ _ _ _ _ _ _ hF) (Nat.le_refl _) (by omega)
def F_w_years_12 (S : Sto) : Option (Int32 × Sto) := b2 (F_Sc_refuse (1 : Int32) S) (fun r1 S3 => some ((-1 : Int32), S3))
set_option maxRecDepth 100000 in
theorem X_w_years_12 {nL : Nat} {xs : Nat → Int32} {M : Sto} {O : Sto} {d : Nat} (hd : 4 ≤ d) : ∀ (S : Sto) (r : Int32) (S' : Sto), F_w_years_12 S = some (r, S') → EX nL xs 0 MI_113 d 12 [some (.ref 0), none, none] [] (S, M, O) (.inl (some (.int r))) (S', M, O) := by
  intro S r S' hF
  unfold F_w_years_12 at hF
  refine Ex_go 3 (pc' := 17) (L' := [some (.ref 0), none, none]) (st' := [.int (1 : Int32), .ref 27]) (σ' := (S, M, O)) (rfl) ?_
  obtain ⟨r1, S3, hx2, hF⟩ := b2_i hF
  refine Ex_call (kind := 2) (y := 37) (as := [.ref 27, .int (1 : Int32)]) (rest := []) (L0 := [some (.ref 27), some (.int (1 : Int32))]) (d' := 1) (v := none) (σ1 := (S3, M, O)) rfl rfl mt_37 rfl rfl (by omega) (X_Sc_refuse (Nat.le_refl _) _ _ _ _ hx2) (Ex_st (st2 := []) rfl ?_)
  refine Ex_go 1 (pc' := 21) (L' := [some (.ref 0), none, none]) (st' := [.int (-1 : Int32)]) (σ' := (S3, M, O)) (rfl) ?_
  cases hF
  exact Ex_fin rfl
def F_w_years_47 : Nat → Int32 → Int32 → Sto → Option (Int32 × Sto)
  | 0, _, _, _ => none
  | n + 1, x1, x2, S => if x1 ≤ x2 then b1 (F_j_bitCountJ (gl S 29)) (fun r1 => some (r1, S)) else b2 (F_Po_behind (gl S 29) (gi S 30) S) (fun r3 S5 => F_w_years_47 n x1 (x2 + (1 : Int32)) (si (sl S5 29 r3) 30 ((gi (sl S5 29 r3) 30) + (1 : Int32))))
set_option maxRecDepth 100000 in
theorem X_w_years_47 {nL : Nat} {xs : Nat → Int32} {M : Sto} {O : Sto} {d : Nat} (hd : 4 ≤ d) : ∀ n : Nat, ∀ (x1 : Int32) (x2 : Int32) (S : Sto) (r : Int32) (S' : Sto), F_w_years_47 n x1 x2 S = some (r, S') → EX nL xs 0 MI_113 d 47 [some (.ref 0), some (.int x1), some (.int x2)] [] (S, M, O) (.inl (some (.int r))) (S', M, O) := by
  intro n
  induction n with
  | zero => intro x1 x2 S r S' hF; cases hF
  | succ n ih =>
  intro x1 x2 S r S' hF
  unfold F_w_years_47 at hF
  refine Ex_go 3 (pc' := if x1 ≤ x2 then 106 else 52) (L' := [some (.ref 0), some (.int x1), some (.int x2)]) (st' := []) (σ' := (S, M, O)) (rfl) ?_
  refine Ex_br (fun hc => ?_) (fun hc => ?_)
  · rw [if_pos hc] at hF
    refine Ex_go 3 (pc' := 113) (L' := [some (.ref 0), some (.int x1), some (.int x2)]) (st' := [.long (gl S 29)]) (σ' := (S, M, O)) (rfl) ?_
    obtain ⟨r1, hx2, hF⟩ := b1_i hF
    refine Ex_call (kind := 0) (y := 80) (as := [.long (gl S 29)]) (rest := []) (L0 := [some (.long (gl S 29)), none]) (d' := 1) (v := some (.int r1)) (σ1 := (S, M, O)) rfl rfl mt_80 rfl rfl (by omega) (X_j_bitCountJ (Nat.le_refl _) _ _ hx2) (Ex_st (st2 := [.int r1]) rfl ?_)
    cases hF
    exact Ex_fin rfl
  · rw [if_neg hc] at hF
    refine Ex_go 10 (pc' := 72) (L' := [some (.ref 0), some (.int x1), some (.int x2)]) (st' := [.ref 0, .long (gl S 29), .ref 12, .ref 43, .ref 27]) (σ' := (S, M, O)) (rfl) ?_
    refine Ex_go 2 (pc' := 78) (L' := [some (.ref 0), some (.int x1), some (.int x2)]) (st' := [.int (gi S 30), .long (gl S 29), .ref 12, .ref 43, .ref 27]) (σ' := (S, M, O)) (rfl) ?_
    obtain ⟨r3, S5, hx4, hF⟩ := b2_i hF
    refine Ex_call (kind := 2) (y := 112) (as := [.ref 43, .ref 12, .long (gl S 29), .int (gi S 30)]) (rest := [.ref 27]) (L0 := [some (.ref 43), some (.ref 12), some (.long (gl S 29)), none, some (.int (gi S 30)), none, none, none, none, none]) (d' := 3) (v := some (.long r3)) (σ1 := (S5, M, O)) rfl rfl mt_112 rfl rfl (by omega) (X_Po_behind (Nat.le_refl _) _ _ _ _ _ hx4) (Ex_st (st2 := [.long r3, .ref 27]) rfl ?_)
    refine Ex_go 10 (pc' := 103) (L' := [some (.ref 0), some (.int x1), some (.int (x2 + (1 : Int32)))]) (st' := []) (σ' := ((si (sl S5 29 r3) 30 ((gi (sl S5 29 r3) 30) + (1 : Int32))), M, O)) (rfl) ?_
    refine Ex_go 1 (pc' := 47) (L' := [some (.ref 0), some (.int x1), some (.int (x2 + (1 : Int32)))]) (st' := []) (σ' := ((si (sl S5 29 r3) 30 ((gi (sl S5 29 r3) 30) + (1 : Int32))), M, O)) (rfl) ?_
    exact Ex_mono (L := [some (.ref 0), some (.int x1), some (.int (x2 + (1 : Int32)))]) (Le_s (Le_s (Le_s (Le_0)))) (ih _ _ _ _ _ hF) (Nat.le_refl _) (by omega)
def F_w_years (x1 : Int32) (S : Sto) : Option (Int32 × Sto) := if x1 < (1 : Int32) then F_w_years_12 S else if x1 ≤ (200 : Int32) then b2 (F_Sc_keepAct (2 : Int32) (gl S 29) (Int32.toInt64 (gi S 30)) S) (fun r1 S3 => F_w_years_47 FU x1 (0 : Int32) S3) else F_w_years_12 S
set_option maxRecDepth 100000 in
theorem X_w_years {nL : Nat} {xs : Nat → Int32} {M : Sto} {O : Sto} {d : Nat} (hd : 4 ≤ d) : ∀ (x1 : Int32) (S : Sto) (r : Int32) (S' : Sto), F_w_years x1 S = some (r, S') → EX nL xs 0 MI_113 d 0 [some (.ref 0), some (.int x1), none] [] (S, M, O) (.inl (some (.int r))) (S', M, O) := by
  intro x1 S r S' hF
  unfold F_w_years at hF
  refine Ex_go 3 (pc' := if x1 < (1 : Int32) then 12 else 5) (L' := [some (.ref 0), some (.int x1), none]) (st' := []) (σ' := (S, M, O)) (rfl) ?_
  refine Ex_br (fun hc => ?_) (fun hc => ?_)
  · rw [if_pos hc] at hF
    exact Ex_mono (L := [some (.ref 0), none, none]) (Le_s (Le_n (Le_n (Le_0)))) (X_w_years_12 hd _ _ _ hF) (Nat.le_refl _) (by omega)
  · rw [if_neg hc] at hF
    refine Ex_go 3 (pc' := if x1 ≤ (200 : Int32) then 22 else 12) (L' := [some (.ref 0), some (.int x1), none]) (st' := []) (σ' := (S, M, O)) (rfl) ?_
    refine Ex_br (fun hc => ?_) (fun hc => ?_)
    · rw [if_pos hc] at hF
      refine Ex_go 10 (pc' := 42) (L' := [some (.ref 0), some (.int x1), none]) (st' := [.long (Int32.toInt64 (gi S 30)), .long (gl S 29), .int (2 : Int32), .ref 27]) (σ' := (S, M, O)) (rfl) ?_
      obtain ⟨r1, S3, hx2, hF⟩ := b2_i hF
      refine Ex_call (kind := 2) (y := 99) (as := [.ref 27, .int (2 : Int32), .long (gl S 29), .long (Int32.toInt64 (gi S 30))]) (rest := []) (L0 := [some (.ref 27), some (.int (2 : Int32)), some (.long (gl S 29)), none, some (.long (Int32.toInt64 (gi S 30))), none, none]) (d' := 1) (v := none) (σ1 := (S3, M, O)) rfl rfl mt_99 rfl rfl (by omega) (X_Sc_keepAct (Nat.le_refl _) _ _ _ _ _ _ hx2) (Ex_st (st2 := []) rfl ?_)
      refine Ex_go 2 (pc' := 47) (L' := [some (.ref 0), some (.int x1), some (.int (0 : Int32))]) (st' := []) (σ' := (S3, M, O)) (rfl) ?_
      exact Ex_mono (L := [some (.ref 0), some (.int x1), some (.int (0 : Int32))]) (Le_s (Le_s (Le_s (Le_0)))) (X_w_years_47 hd FU _ _ _ _ _ hF) (Nat.le_refl _) (by omega)
    · rw [if_neg hc] at hF
      exact Ex_mono (L := [some (.ref 0), none, none]) (Le_s (Le_n (Le_n (Le_0)))) (X_w_years_12 hd _ _ _ hF) (Nat.le_refl _) (by omega)
def F_m_pack_1000_1012 (x2 : Int32) (M : Sto) : Option (Unit × Sto) := ck (ib x2 200) (ck (ib (x2 + (1 : Int32)) 200) (ck (ib (x2 + (2 : Int32)) 200) (ck (ib (x2 + (3 : Int32)) 200) (ck (ib (x2 + (4 : Int32)) 200) (some ((), (ul (ul (ul (ul (ul M 1012 (vp_updL (al M 1012) (Int32.toNatClampNeg x2) (gl M 1013))) 1012 (vp_updL (al (ul M 1012 (vp_updL (al M 1012) (Int32.toNatClampNeg x2) (gl M 1013))) 1012) (Int32.toNatClampNeg (x2 + (1 : Int32))) (gl (ul M 1012 (vp_updL (al M 1012) (Int32.toNatClampNeg x2) (gl M 1013))) 1014))) 1012 (vp_updL (al (ul (ul M 1012 (vp_updL (al M 1012) (Int32.toNatClampNeg x2) (gl M 1013))) 1012 (vp_updL (al (ul M 1012 (vp_updL (al M 1012) (Int32.toNatClampNeg x2) (gl M 1013))) 1012) (Int32.toNatClampNeg (x2 + (1 : Int32))) (gl (ul M 1012 (vp_updL (al M 1012) (Int32.toNatClampNeg x2) (gl M 1013))) 1014))) 1012) (Int32.toNatClampNeg (x2 + (2 : Int32))) (Int32.toInt64 (gi (ul (ul M 1012 (vp_updL (al M 1012) (Int32.toNatClampNeg x2) (gl M 1013))) 1012 (vp_updL (al (ul M 1012 (vp_updL (al M 1012) (Int32.toNatClampNeg x2) (gl M 1013))) 1012) (Int32.toNatClampNeg (x2 + (1 : Int32))) (gl (ul M 1012 (vp_updL (al M 1012) (Int32.toNatClampNeg x2) (gl M 1013))) 1014))) 1016)))) 1012 (vp_updL (al (ul (ul (ul M 1012 (vp_updL (al M 1012) (Int32.toNatClampNeg x2) (gl M 1013))) 1012 (vp_updL (al (ul M 1012 (vp_updL (al M 1012) (Int32.toNatClampNeg x2) (gl M 1013))) 1012) (Int32.toNatClampNeg (x2 + (1 : Int32))) (gl (ul M 1012 (vp_updL (al M 1012) (Int32.toNatClampNeg x2) (gl M 1013))) 1014))) 1012 (vp_updL (al (ul (ul M 1012 (vp_updL (al M 1012) (Int32.toNatClampNeg x2) (gl M 1013))) 1012 (vp_updL (al (ul M 1012 (vp_updL (al M 1012) (Int32.toNatClampNeg x2) (gl M 1013))) 1012) (Int32.toNatClampNeg (x2 + (1 : Int32))) (gl (ul M 1012 (vp_updL (al M 1012) (Int32.toNatClampNeg x2) (gl M 1013))) 1014))) 1012) (Int32.toNatClampNeg (x2 + (2 : Int32))) (Int32.toInt64 (gi (ul (ul M 1012 (vp_updL (al M 1012) (Int32.toNatClampNeg x2) (gl M 1013))) 1012 (vp_updL (al (ul M 1012 (vp_updL (al M 1012) (Int32.toNatClampNeg x2) (gl M 1013))) 1012) (Int32.toNatClampNeg (x2 + (1 : Int32))) (gl (ul M 1012 (vp_updL (al M 1012) (Int32.toNatClampNeg x2) (gl M 1013))) 1014))) 1016)))) 1012) (Int32.toNatClampNeg (x2 + (3 : Int32))) (gl (ul (ul (ul M 1012 (vp_updL (al M 1012) (Int32.toNatClampNeg x2) (gl M 1013))) 1012 (vp_updL (al (ul M 1012 (vp_updL (al M 1012) (Int32.toNatClampNeg x2) (gl M 1013))) 1012) (Int32.toNatClampNeg (x2 + (1 : Int32))) (gl (ul M 1012 (vp_updL (al M 1012) (Int32.toNatClampNeg x2) (gl M 1013))) 1014))) 1012 (vp_updL (al (ul (ul M 1012 (vp_updL (al M 1012) (Int32.toNatClampNeg x2) (gl M 1013))) 1012 (vp_updL (al (ul M 1012 (vp_updL (al M 1012) (Int32.toNatClampNeg x2) (gl M 1013))) 1012) (Int32.toNatClampNeg (x2 + (1 : Int32))) (gl (ul M 1012 (vp_updL (al M 1012) (Int32.toNatClampNeg x2) (gl M 1013))) 1014))) 1012) (Int32.toNatClampNeg (x2 + (2 : Int32))) (Int32.toInt64 (gi (ul (ul M 1012 (vp_updL (al M 1012) (Int32.toNatClampNeg x2) (gl M 1013))) 1012 (vp_updL (al (ul M 1012 (vp_updL (al M 1012) (Int32.toNatClampNeg x2) (gl M 1013))) 1012) (Int32.toNatClampNeg (x2 + (1 : Int32))) (gl (ul M 1012 (vp_updL (al M 1012) (Int32.toNatClampNeg x2) (gl M 1013))) 1014))) 1016)))) 1015))) 1012 (vp_updL (al (ul (ul (ul (ul M 1012 (vp_updL (al M 1012) (Int32.toNatClampNeg x2) (gl M 1013))) 1012 (vp_updL (al (ul M 1012 (vp_updL (al M 1012) (Int32.toNatClampNeg x2) (gl M 1013))) 1012) (Int32.toNatClampNeg (x2 + (1 : Int32))) (gl (ul M 1012 (vp_updL (al M 1012) (Int32.toNatClampNeg x2) (gl M 1013))) 1014))) 1012 (vp_updL (al (ul (ul M 1012 (vp_updL (al M 1012) (Int32.toNatClampNeg x2) (gl M 1013))) 1012 (vp_updL (al (ul M 1012 (vp_updL (al M 1012) (Int32.toNatClampNeg x2) (gl M 1013))) 1012) (Int32.toNatClampNeg (x2 + (1 : Int32))) (gl (ul M 1012 (vp_updL (al M 1012) (Int32.toNatClampNeg x2) (gl M 1013))) 1014))) 1012) (Int32.toNatClampNeg (x2 + (2 : Int32))) (Int32.toInt64 (gi (ul (ul M 1012 (vp_updL (al M 1012) (Int32.toNatClampNeg x2) (gl M 1013))) 1012 (vp_updL (al (ul M 1012 (vp_updL (al M 1012) (Int32.toNatClampNeg x2) (gl M 1013))) 1012) (Int32.toNatClampNeg (x2 + (1 : Int32))) (gl (ul M 1012 (vp_updL (al M 1012) (Int32.toNatClampNeg x2) (gl M 1013))) 1014))) 1016)))) 1012 (vp_updL (al (ul (ul (ul M 1012 (vp_updL (al M 1012) (Int32.toNatClampNeg x2) (gl M 1013))) 1012 (vp_updL (al (ul M 1012 (vp_updL (al M 1012) (Int32.toNatClampNeg x2) (gl M 1013))) 1012) (Int32.toNatClampNeg (x2 + (1 : Int32))) (gl (ul M 1012 (vp_updL (al M 1012) (Int32.toNatClampNeg x2) (gl M 1013))) 1014))) 1012 (vp_updL (al (ul (ul M 1012 (vp_updL (al M 1012) (Int32.toNatClampNeg x2) (gl M 1013))) 1012 (vp_updL (al (ul M 1012 (vp_updL (al M 1012) (Int32.toNatClampNeg x2) (gl M 1013))) 1012) (Int32.toNatClampNeg (x2 + (1 : Int32))) (gl (ul M 1012 (vp_updL (al M 1012) (Int32.toNatClampNeg x2) (gl M 1013))) 1014))) 1012) (Int32.toNatClampNeg (x2 + (2 : Int32))) (Int32.toInt64 (gi (ul (ul M 1012 (vp_updL (al M 1012) (Int32.toNatClampNeg x2) (gl M 1013))) 1012 (vp_updL (al (ul M 1012 (vp_updL (al M 1012) (Int32.toNatClampNeg x2) (gl M 1013))) 1012) (Int32.toNatClampNeg (x2 + (1 : Int32))) (gl (ul M 1012 (vp_updL (al M 1012) (Int32.toNatClampNeg x2) (gl M 1013))) 1014))) 1016)))) 1012) (Int32.toNatClampNeg (x2 + (3 : Int32))) (gl (ul (ul (ul M 1012 (vp_updL (al M 1012) (Int32.toNatClampNeg x2) (gl M 1013))) 1012 (vp_updL (al (ul M 1012 (vp_updL (al M 1012) (Int32.toNatClampNeg x2) (gl M 1013))) 1012) (Int32.toNatClampNeg (x2 + (1 : Int32))) (gl (ul M 1012 (vp_updL (al M 1012) (Int32.toNatClampNeg x2) (gl M 1013))) 1014))) 1012 (vp_updL (al (ul (ul M 1012 (vp_updL (al M 1012) (Int32.toNatClampNeg x2) (gl M 1013))) 1012 (vp_updL (al (ul M 1012 (vp_updL (al M 1012) (Int32.toNatClampNeg x2) (gl M 1013))) 1012) (Int32.toNatClampNeg (x2 + (1 : Int32))) (gl (ul M 1012 (vp_updL (al M 1012) (Int32.toNatClampNeg x2) (gl M 1013))) 1014))) 1012) (Int32.toNatClampNeg (x2 + (2 : Int32))) (Int32.toInt64 (gi (ul (ul M 1012 (vp_updL (al M 1012) (Int32.toNatClampNeg x2) (gl M 1013))) 1012 (vp_updL (al (ul M 1012 (vp_updL (al M 1012) (Int32.toNatClampNeg x2) (gl M 1013))) 1012) (Int32.toNatClampNeg (x2 + (1 : Int32))) (gl (ul M 1012 (vp_updL (al M 1012) (Int32.toNatClampNeg x2) (gl M 1013))) 1014))) 1016)))) 1015))) 1012) (Int32.toNatClampNeg (x2 + (4 : Int32))) (Int32.toInt64 (gi (ul (ul (ul (ul M 1012 (vp_updL (al M 1012) (Int32.toNatClampNeg x2) (gl M 1013))) 1012 (vp_updL (al (ul M 1012 (vp_updL (al M 1012) (Int32.toNatClampNeg x2) (gl M 1013))) 1012) (Int32.toNatClampNeg (x2 + (1 : Int32))) (gl (ul M 1012 (vp_updL (al M 1012) (Int32.toNatClampNeg x2) (gl M 1013))) 1014))) 1012 (vp_updL (al (ul (ul M 1012 (vp_updL (al M 1012) (Int32.toNatClampNeg x2) (gl M 1013))) 1012 (vp_updL (al (ul M 1012 (vp_updL (al M 1012) (Int32.toNatClampNeg x2) (gl M 1013))) 1012) (Int32.toNatClampNeg (x2 + (1 : Int32))) (gl (ul M 1012 (vp_updL (al M 1012) (Int32.toNatClampNeg x2) (gl M 1013))) 1014))) 1012) (Int32.toNatClampNeg (x2 + (2 : Int32))) (Int32.toInt64 (gi (ul (ul M 1012 (vp_updL (al M 1012) (Int32.toNatClampNeg x2) (gl M 1013))) 1012 (vp_updL (al (ul M 1012 (vp_updL (al M 1012) (Int32.toNatClampNeg x2) (gl M 1013))) 1012) (Int32.toNatClampNeg (x2 + (1 : Int32))) (gl (ul M 1012 (vp_updL (al M 1012) (Int32.toNatClampNeg x2) (gl M 1013))) 1014))) 1016)))) 1012 (vp_updL (al (ul (ul (ul M 1012 (vp_updL (al M 1012) (Int32.toNatClampNeg x2) (gl M 1013))) 1012 (vp_updL (al (ul M 1012 (vp_updL (al M 1012) (Int32.toNatClampNeg x2) (gl M 1013))) 1012) (Int32.toNatClampNeg (x2 + (1 : Int32))) (gl (ul M 1012 (vp_updL (al M 1012) (Int32.toNatClampNeg x2) (gl M 1013))) 1014))) 1012 (vp_updL (al (ul (ul M 1012 (vp_updL (al M 1012) (Int32.toNatClampNeg x2) (gl M 1013))) 1012 (vp_updL (al (ul M 1012 (vp_updL (al M 1012) (Int32.toNatClampNeg x2) (gl M 1013))) 1012) (Int32.toNatClampNeg (x2 + (1 : Int32))) (gl (ul M 1012 (vp_updL (al M 1012) (Int32.toNatClampNeg x2) (gl M 1013))) 1014))) 1012) (Int32.toNatClampNeg (x2 + (2 : Int32))) (Int32.toInt64 (gi (ul (ul M 1012 (vp_updL (al M 1012) (Int32.toNatClampNeg x2) (gl M 1013))) 1012 (vp_updL (al (ul M 1012 (vp_updL (al M 1012) (Int32.toNatClampNeg x2) (gl M 1013))) 1012) (Int32.toNatClampNeg (x2 + (1 : Int32))) (gl (ul M 1012 (vp_updL (al M 1012) (Int32.toNatClampNeg x2) (gl M 1013))) 1014))) 1016)))) 1012) (Int32.toNatClampNeg (x2 + (3 : Int32))) (gl (ul (ul (ul M 1012 (vp_updL (al M 1012) (Int32.toNatClampNeg x2) (gl M 1013))) 1012 (vp_updL (al (ul M 1012 (vp_updL (al M 1012) (Int32.toNatClampNeg x2) (gl M 1013))) 1012) (Int32.toNatClampNeg (x2 + (1 : Int32))) (gl (ul M 1012 (vp_updL (al M 1012) (Int32.toNatClampNeg x2) (gl M 1013))) 1014))) 1012 (vp_updL (al (ul (ul M 1012 (vp_updL (al M 1012) (Int32.toNatClampNeg x2) (gl M 1013))) 1012 (vp_updL (al (ul M 1012 (vp_updL (al M 1012) (Int32.toNatClampNeg x2) (gl M 1013))) 1012) (Int32.toNatClampNeg (x2 + (1 : Int32))) (gl (ul M 1012 (vp_updL (al M 1012) (Int32.toNatClampNeg x2) (gl M 1013))) 1014))) 1012) (Int32.toNatClampNeg (x2 + (2 : Int32))) (Int32.toInt64 (gi (ul (ul M 1012 (vp_updL (al M 1012) (Int32.toNatClampNeg x2) (gl M 1013))) 1012 (vp_updL (al (ul M 1012 (vp_updL (al M 1012) (Int32.toNatClampNeg x2) (gl M 1013))) 1012) (Int32.toNatClampNeg (x2 + (1 : Int32))) (gl (ul M 1012 (vp_updL (al M 1012) (Int32.toNatClampNeg x2) (gl M 1013))) 1014))) 1016)))) 1015))) 1017))))))))))
set_option maxRecDepth 100000 in
theorem X_m_pack_1000_1012 {nL : Nat} {xs : Nat → Int32} {S : Sto} {O : Sto} {d : Nat} (hd : 1 ≤ d) : ∀ (x2 : Int32) (M : Sto) (r : Unit) (M' : Sto), F_m_pack_1000_1012 x2 M = some (r, M') → EX nL xs 0 MI_102 d 0 [some (.ref 1000), some (.ref 1012), some (.int x2)] [] (S, M, O) (.inl none) (S, M', O) := by
  intro x2 M r M' hF
  unfold F_m_pack_1000_1012 at hF
  refine Ex_go 4 (pc' := 6) (L' := [some (.ref 1000), some (.ref 1012), some (.int x2)]) (st' := [.long (gl M 1013), .int x2, .ref 1012]) (σ' := (S, M, O)) (rfl) ?_
  obtain ⟨hc1, hF⟩ := ck_i hF
  refine Ex_chk (b := ib x2 200) (pc' := 7) (L' := [some (.ref 1000), some (.ref 1012), some (.int x2)]) (st' := []) (σ' := (S, (ul M 1012 (vp_updL (al M 1012) (Int32.toNatClampNeg x2) (gl M 1013))), O)) rfl hc1 ?_
  refine Ex_go 6 (pc' := 15) (L' := [some (.ref 1000), some (.ref 1012), some (.int x2)]) (st' := [.long (gl (ul M 1012 (vp_updL (al M 1012) (Int32.toNatClampNeg x2) (gl M 1013))) 1014), .int (x2 + (1 : Int32)), .ref 1012]) (σ' := (S, (ul M 1012 (vp_updL (al M 1012) (Int32.toNatClampNeg x2) (gl M 1013))), O)) (rfl) ?_
  obtain ⟨hc2, hF⟩ := ck_i hF
  refine Ex_chk (b := ib (x2 + (1 : Int32)) 200) (pc' := 16) (L' := [some (.ref 1000), some (.ref 1012), some (.int x2)]) (st' := []) (σ' := (S, (ul (ul M 1012 (vp_updL (al M 1012) (Int32.toNatClampNeg x2) (gl M 1013))) 1012 (vp_updL (al (ul M 1012 (vp_updL (al M 1012) (Int32.toNatClampNeg x2) (gl M 1013))) 1012) (Int32.toNatClampNeg (x2 + (1 : Int32))) (gl (ul M 1012 (vp_updL (al M 1012) (Int32.toNatClampNeg x2) (gl M 1013))) 1014))), O)) rfl hc2 ?_
  refine Ex_go 7 (pc' := 25) (L' := [some (.ref 1000), some (.ref 1012), some (.int x2)]) (st' := [.long (Int32.toInt64 (gi (ul (ul M 1012 (vp_updL (al M 1012) (Int32.toNatClampNeg x2) (gl M 1013))) 1012 (vp_updL (al (ul M 1012 (vp_updL (al M 1012) (Int32.toNatClampNeg x2) (gl M 1013))) 1012) (Int32.toNatClampNeg (x2 + (1 : Int32))) (gl (ul M 1012 (vp_updL (al M 1012) (Int32.toNatClampNeg x2) (gl M 1013))) 1014))) 1016)), .int (x2 + (2 : Int32)), .ref 1012]) (σ' := (S, (ul (ul M 1012 (vp_updL (al M 1012) (Int32.toNatClampNeg x2) (gl M 1013))) 1012 (vp_updL (al (ul M 1012 (vp_updL (al M 1012) (Int32.toNatClampNeg x2) (gl M 1013))) 1012) (Int32.toNatClampNeg (x2 + (1 : Int32))) (gl (ul M 1012 (vp_updL (al M 1012) (Int32.toNatClampNeg x2) (gl M 1013))) 1014))), O)) (rfl) ?_
  obtain ⟨hc3, hF⟩ := ck_i hF
  refine Ex_chk (b := ib (x2 + (2 : Int32)) 200) (pc' := 26) (L' := [some (.ref 1000), some (.ref 1012), some (.int x2)]) (st' := []) (σ' := (S, (ul (ul (ul M 1012 (vp_updL (al M 1012) (Int32.toNatClampNeg x2) (gl M 1013))) 1012 (vp_updL (al (ul M 1012 (vp_updL (al M 1012) (Int32.toNatClampNeg x2) (gl M 1013))) 1012) (Int32.toNatClampNeg (x2 + (1 : Int32))) (gl (ul M 1012 (vp_updL (al M 1012) (Int32.toNatClampNeg x2) (gl M 1013))) 1014))) 1012 (vp_updL (al (ul (ul M 1012 (vp_updL (al M 1012) (Int32.toNatClampNeg x2) (gl M 1013))) 1012 (vp_updL (al (ul M 1012 (vp_updL (al M 1012) (Int32.toNatClampNeg x2) (gl M 1013))) 1012) (Int32.toNatClampNeg (x2 + (1 : Int32))) (gl (ul M 1012 (vp_updL (al M 1012) (Int32.toNatClampNeg x2) (gl M 1013))) 1014))) 1012) (Int32.toNatClampNeg (x2 + (2 : Int32))) (Int32.toInt64 (gi (ul (ul M 1012 (vp_updL (al M 1012) (Int32.toNatClampNeg x2) (gl M 1013))) 1012 (vp_updL (al (ul M 1012 (vp_updL (al M 1012) (Int32.toNatClampNeg x2) (gl M 1013))) 1012) (Int32.toNatClampNeg (x2 + (1 : Int32))) (gl (ul M 1012 (vp_updL (al M 1012) (Int32.toNatClampNeg x2) (gl M 1013))) 1014))) 1016)))), O)) rfl hc3 ?_
  refine Ex_go 6 (pc' := 34) (L' := [some (.ref 1000), some (.ref 1012), some (.int x2)]) (st' := [.long (gl (ul (ul (ul M 1012 (vp_updL (al M 1012) (Int32.toNatClampNeg x2) (gl M 1013))) 1012 (vp_updL (al (ul M 1012 (vp_updL (al M 1012) (Int32.toNatClampNeg x2) (gl M 1013))) 1012) (Int32.toNatClampNeg (x2 + (1 : Int32))) (gl (ul M 1012 (vp_updL (al M 1012) (Int32.toNatClampNeg x2) (gl M 1013))) 1014))) 1012 (vp_updL (al (ul (ul M 1012 (vp_updL (al M 1012) (Int32.toNatClampNeg x2) (gl M 1013))) 1012 (vp_updL (al (ul M 1012 (vp_updL (al M 1012) (Int32.toNatClampNeg x2) (gl M 1013))) 1012) (Int32.toNatClampNeg (x2 + (1 : Int32))) (gl (ul M 1012 (vp_updL (al M 1012) (Int32.toNatClampNeg x2) (gl M 1013))) 1014))) 1012) (Int32.toNatClampNeg (x2 + (2 : Int32))) (Int32.toInt64 (gi (ul (ul M 1012 (vp_updL (al M 1012) (Int32.toNatClampNeg x2) (gl M 1013))) 1012 (vp_updL (al (ul M 1012 (vp_updL (al M 1012) (Int32.toNatClampNeg x2) (gl M 1013))) 1012) (Int32.toNatClampNeg (x2 + (1 : Int32))) (gl (ul M 1012 (vp_updL (al M 1012) (Int32.toNatClampNeg x2) (gl M 1013))) 1014))) 1016)))) 1015), .int (x2 + (3 : Int32)), .ref 1012]) (σ' := (S, (ul (ul (ul M 1012 (vp_updL (al M 1012) (Int32.toNatClampNeg x2) (gl M 1013))) 1012 (vp_updL (al (ul M 1012 (vp_updL (al M 1012) (Int32.toNatClampNeg x2) (gl M 1013))) 1012) (Int32.toNatClampNeg (x2 + (1 : Int32))) (gl (ul M 1012 (vp_updL (al M 1012) (Int32.toNatClampNeg x2) (gl M 1013))) 1014))) 1012 (vp_updL (al (ul (ul M 1012 (vp_updL (al M 1012) (Int32.toNatClampNeg x2) (gl M 1013))) 1012 (vp_updL (al (ul M 1012 (vp_updL (al M 1012) (Int32.toNatClampNeg x2) (gl M 1013))) 1012) (Int32.toNatClampNeg (x2 + (1 : Int32))) (gl (ul M 1012 (vp_updL (al M 1012) (Int32.toNatClampNeg x2) (gl M 1013))) 1014))) 1012) (Int32.toNatClampNeg (x2 + (2 : Int32))) (Int32.toInt64 (gi (ul (ul M 1012 (vp_updL (al M 1012) (Int32.toNatClampNeg x2) (gl M 1013))) 1012 (vp_updL (al (ul M 1012 (vp_updL (al M 1012) (Int32.toNatClampNeg x2) (gl M 1013))) 1012) (Int32.toNatClampNeg (x2 + (1 : Int32))) (gl (ul M 1012 (vp_updL (al M 1012) (Int32.toNatClampNeg x2) (gl M 1013))) 1014))) 1016)))), O)) (rfl) ?_
  obtain ⟨hc4, hF⟩ := ck_i hF
  refine Ex_chk (b := ib (x2 + (3 : Int32)) 200) (pc' := 35) (L' := [some (.ref 1000), some (.ref 1012), some (.int x2)]) (st' := []) (σ' := (S, (ul (ul (ul (ul M 1012 (vp_updL (al M 1012) (Int32.toNatClampNeg x2) (gl M 1013))) 1012 (vp_updL (al (ul M 1012 (vp_updL (al M 1012) (Int32.toNatClampNeg x2) (gl M 1013))) 1012) (Int32.toNatClampNeg (x2 + (1 : Int32))) (gl (ul M 1012 (vp_updL (al M 1012) (Int32.toNatClampNeg x2) (gl M 1013))) 1014))) 1012 (vp_updL (al (ul (ul M 1012 (vp_updL (al M 1012) (Int32.toNatClampNeg x2) (gl M 1013))) 1012 (vp_updL (al (ul M 1012 (vp_updL (al M 1012) (Int32.toNatClampNeg x2) (gl M 1013))) 1012) (Int32.toNatClampNeg (x2 + (1 : Int32))) (gl (ul M 1012 (vp_updL (al M 1012) (Int32.toNatClampNeg x2) (gl M 1013))) 1014))) 1012) (Int32.toNatClampNeg (x2 + (2 : Int32))) (Int32.toInt64 (gi (ul (ul M 1012 (vp_updL (al M 1012) (Int32.toNatClampNeg x2) (gl M 1013))) 1012 (vp_updL (al (ul M 1012 (vp_updL (al M 1012) (Int32.toNatClampNeg x2) (gl M 1013))) 1012) (Int32.toNatClampNeg (x2 + (1 : Int32))) (gl (ul M 1012 (vp_updL (al M 1012) (Int32.toNatClampNeg x2) (gl M 1013))) 1014))) 1016)))) 1012 (vp_updL (al (ul (ul (ul M 1012 (vp_updL (al M 1012) (Int32.toNatClampNeg x2) (gl M 1013))) 1012 (vp_updL (al (ul M 1012 (vp_updL (al M 1012) (Int32.toNatClampNeg x2) (gl M 1013))) 1012) (Int32.toNatClampNeg (x2 + (1 : Int32))) (gl (ul M 1012 (vp_updL (al M 1012) (Int32.toNatClampNeg x2) (gl M 1013))) 1014))) 1012 (vp_updL (al (ul (ul M 1012 (vp_updL (al M 1012) (Int32.toNatClampNeg x2) (gl M 1013))) 1012 (vp_updL (al (ul M 1012 (vp_updL (al M 1012) (Int32.toNatClampNeg x2) (gl M 1013))) 1012) (Int32.toNatClampNeg (x2 + (1 : Int32))) (gl (ul M 1012 (vp_updL (al M 1012) (Int32.toNatClampNeg x2) (gl M 1013))) 1014))) 1012) (Int32.toNatClampNeg (x2 + (2 : Int32))) (Int32.toInt64 (gi (ul (ul M 1012 (vp_updL (al M 1012) (Int32.toNatClampNeg x2) (gl M 1013))) 1012 (vp_updL (al (ul M 1012 (vp_updL (al M 1012) (Int32.toNatClampNeg x2) (gl M 1013))) 1012) (Int32.toNatClampNeg (x2 + (1 : Int32))) (gl (ul M 1012 (vp_updL (al M 1012) (Int32.toNatClampNeg x2) (gl M 1013))) 1014))) 1016)))) 1012) (Int32.toNatClampNeg (x2 + (3 : Int32))) (gl (ul (ul (ul M 1012 (vp_updL (al M 1012) (Int32.toNatClampNeg x2) (gl M 1013))) 1012 (vp_updL (al (ul M 1012 (vp_updL (al M 1012) (Int32.toNatClampNeg x2) (gl M 1013))) 1012) (Int32.toNatClampNeg (x2 + (1 : Int32))) (gl (ul M 1012 (vp_updL (al M 1012) (Int32.toNatClampNeg x2) (gl M 1013))) 1014))) 1012 (vp_updL (al (ul (ul M 1012 (vp_updL (al M 1012) (Int32.toNatClampNeg x2) (gl M 1013))) 1012 (vp_updL (al (ul M 1012 (vp_updL (al M 1012) (Int32.toNatClampNeg x2) (gl M 1013))) 1012) (Int32.toNatClampNeg (x2 + (1 : Int32))) (gl (ul M 1012 (vp_updL (al M 1012) (Int32.toNatClampNeg x2) (gl M 1013))) 1014))) 1012) (Int32.toNatClampNeg (x2 + (2 : Int32))) (Int32.toInt64 (gi (ul (ul M 1012 (vp_updL (al M 1012) (Int32.toNatClampNeg x2) (gl M 1013))) 1012 (vp_updL (al (ul M 1012 (vp_updL (al M 1012) (Int32.toNatClampNeg x2) (gl M 1013))) 1012) (Int32.toNatClampNeg (x2 + (1 : Int32))) (gl (ul M 1012 (vp_updL (al M 1012) (Int32.toNatClampNeg x2) (gl M 1013))) 1014))) 1016)))) 1015))), O)) rfl hc4 ?_
  refine Ex_go 7 (pc' := 44) (L' := [some (.ref 1000), some (.ref 1012), some (.int x2)]) (st' := [.long (Int32.toInt64 (gi (ul (ul (ul (ul M 1012 (vp_updL (al M 1012) (Int32.toNatClampNeg x2) (gl M 1013))) 1012 (vp_updL (al (ul M 1012 (vp_updL (al M 1012) (Int32.toNatClampNeg x2) (gl M 1013))) 1012) (Int32.toNatClampNeg (x2 + (1 : Int32))) (gl (ul M 1012 (vp_updL (al M 1012) (Int32.toNatClampNeg x2) (gl M 1013))) 1014))) 1012 (vp_updL (al (ul (ul M 1012 (vp_updL (al M 1012) (Int32.toNatClampNeg x2) (gl M 1013))) 1012 (vp_updL (al (ul M 1012 (vp_updL (al M 1012) (Int32.toNatClampNeg x2) (gl M 1013))) 1012) (Int32.toNatClampNeg (x2 + (1 : Int32))) (gl (ul M 1012 (vp_updL (al M 1012) (Int32.toNatClampNeg x2) (gl M 1013))) 1014))) 1012) (Int32.toNatClampNeg (x2 + (2 : Int32))) (Int32.toInt64 (gi (ul (ul M 1012 (vp_updL (al M 1012) (Int32.toNatClampNeg x2) (gl M 1013))) 1012 (vp_updL (al (ul M 1012 (vp_updL (al M 1012) (Int32.toNatClampNeg x2) (gl M 1013))) 1012) (Int32.toNatClampNeg (x2 + (1 : Int32))) (gl (ul M 1012 (vp_updL (al M 1012) (Int32.toNatClampNeg x2) (gl M 1013))) 1014))) 1016)))) 1012 (vp_updL (al (ul (ul (ul M 1012 (vp_updL (al M 1012) (Int32.toNatClampNeg x2) (gl M 1013))) 1012 (vp_updL (al (ul M 1012 (vp_updL (al M 1012) (Int32.toNatClampNeg x2) (gl M 1013))) 1012) (Int32.toNatClampNeg (x2 + (1 : Int32))) (gl (ul M 1012 (vp_updL (al M 1012) (Int32.toNatClampNeg x2) (gl M 1013))) 1014))) 1012 (vp_updL (al (ul (ul M 1012 (vp_updL (al M 1012) (Int32.toNatClampNeg x2) (gl M 1013))) 1012 (vp_updL (al (ul M 1012 (vp_updL (al M 1012) (Int32.toNatClampNeg x2) (gl M 1013))) 1012) (Int32.toNatClampNeg (x2 + (1 : Int32))) (gl (ul M 1012 (vp_updL (al M 1012) (Int32.toNatClampNeg x2) (gl M 1013))) 1014))) 1012) (Int32.toNatClampNeg (x2 + (2 : Int32))) (Int32.toInt64 (gi (ul (ul M 1012 (vp_updL (al M 1012) (Int32.toNatClampNeg x2) (gl M 1013))) 1012 (vp_updL (al (ul M 1012 (vp_updL (al M 1012) (Int32.toNatClampNeg x2) (gl M 1013))) 1012) (Int32.toNatClampNeg (x2 + (1 : Int32))) (gl (ul M 1012 (vp_updL (al M 1012) (Int32.toNatClampNeg x2) (gl M 1013))) 1014))) 1016)))) 1012) (Int32.toNatClampNeg (x2 + (3 : Int32))) (gl (ul (ul (ul M 1012 (vp_updL (al M 1012) (Int32.toNatClampNeg x2) (gl M 1013))) 1012 (vp_updL (al (ul M 1012 (vp_updL (al M 1012) (Int32.toNatClampNeg x2) (gl M 1013))) 1012) (Int32.toNatClampNeg (x2 + (1 : Int32))) (gl (ul M 1012 (vp_updL (al M 1012) (Int32.toNatClampNeg x2) (gl M 1013))) 1014))) 1012 (vp_updL (al (ul (ul M 1012 (vp_updL (al M 1012) (Int32.toNatClampNeg x2) (gl M 1013))) 1012 (vp_updL (al (ul M 1012 (vp_updL (al M 1012) (Int32.toNatClampNeg x2) (gl M 1013))) 1012) (Int32.toNatClampNeg (x2 + (1 : Int32))) (gl (ul M 1012 (vp_updL (al M 1012) (Int32.toNatClampNeg x2) (gl M 1013))) 1014))) 1012) (Int32.toNatClampNeg (x2 + (2 : Int32))) (Int32.toInt64 (gi (ul (ul M 1012 (vp_updL (al M 1012) (Int32.toNatClampNeg x2) (gl M 1013))) 1012 (vp_updL (al (ul M 1012 (vp_updL (al M 1012) (Int32.toNatClampNeg x2) (gl M 1013))) 1012) (Int32.toNatClampNeg (x2 + (1 : Int32))) (gl (ul M 1012 (vp_updL (al M 1012) (Int32.toNatClampNeg x2) (gl M 1013))) 1014))) 1016)))) 1015))) 1017)), .int (x2 + (4 : Int32)), .ref 1012]) (σ' := (S, (ul (ul (ul (ul M 1012 (vp_updL (al M 1012) (Int32.toNatClampNeg x2) (gl M 1013))) 1012 (vp_updL (al (ul M 1012 (vp_updL (al M 1012) (Int32.toNatClampNeg x2) (gl M 1013))) 1012) (Int32.toNatClampNeg (x2 + (1 : Int32))) (gl (ul M 1012 (vp_updL (al M 1012) (Int32.toNatClampNeg x2) (gl M 1013))) 1014))) 1012 (vp_updL (al (ul (ul M 1012 (vp_updL (al M 1012) (Int32.toNatClampNeg x2) (gl M 1013))) 1012 (vp_updL (al (ul M 1012 (vp_updL (al M 1012) (Int32.toNatClampNeg x2) (gl M 1013))) 1012) (Int32.toNatClampNeg (x2 + (1 : Int32))) (gl (ul M 1012 (vp_updL (al M 1012) (Int32.toNatClampNeg x2) (gl M 1013))) 1014))) 1012) (Int32.toNatClampNeg (x2 + (2 : Int32))) (Int32.toInt64 (gi (ul (ul M 1012 (vp_updL (al M 1012) (Int32.toNatClampNeg x2) (gl M 1013))) 1012 (vp_updL (al (ul M 1012 (vp_updL (al M 1012) (Int32.toNatClampNeg x2) (gl M 1013))) 1012) (Int32.toNatClampNeg (x2 + (1 : Int32))) (gl (ul M 1012 (vp_updL (al M 1012) (Int32.toNatClampNeg x2) (gl M 1013))) 1014))) 1016)))) 1012 (vp_updL (al (ul (ul (ul M 1012 (vp_updL (al M 1012) (Int32.toNatClampNeg x2) (gl M 1013))) 1012 (vp_updL (al (ul M 1012 (vp_updL (al M 1012) (Int32.toNatClampNeg x2) (gl M 1013))) 1012) (Int32.toNatClampNeg (x2 + (1 : Int32))) (gl (ul M 1012 (vp_updL (al M 1012) (Int32.toNatClampNeg x2) (gl M 1013))) 1014))) 1012 (vp_updL (al (ul (ul M 1012 (vp_updL (al M 1012) (Int32.toNatClampNeg x2) (gl M 1013))) 1012 (vp_updL (al (ul M 1012 (vp_updL (al M 1012) (Int32.toNatClampNeg x2) (gl M 1013))) 1012) (Int32.toNatClampNeg (x2 + (1 : Int32))) (gl (ul M 1012 (vp_updL (al M 1012) (Int32.toNatClampNeg x2) (gl M 1013))) 1014))) 1012) (Int32.toNatClampNeg (x2 + (2 : Int32))) (Int32.toInt64 (gi (ul (ul M 1012 (vp_updL (al M 1012) (Int32.toNatClampNeg x2) (gl M 1013))) 1012 (vp_updL (al (ul M 1012 (vp_updL (al M 1012) (Int32.toNatClampNeg x2) (gl M 1013))) 1012) (Int32.toNatClampNeg (x2 + (1 : Int32))) (gl (ul M 1012 (vp_updL (al M 1012) (Int32.toNatClampNeg x2) (gl M 1013))) 1014))) 1016)))) 1012) (Int32.toNatClampNeg (x2 + (3 : Int32))) (gl (ul (ul (ul M 1012 (vp_updL (al M 1012) (Int32.toNatClampNeg x2) (gl M 1013))) 1012 (vp_updL (al (ul M 1012 (vp_updL (al M 1012) (Int32.toNatClampNeg x2) (gl M 1013))) 1012) (Int32.toNatClampNeg (x2 + (1 : Int32))) (gl (ul M 1012 (vp_updL (al M 1012) (Int32.toNatClampNeg x2) (gl M 1013))) 1014))) 1012 (vp_updL (al (ul (ul M 1012 (vp_updL (al M 1012) (Int32.toNatClampNeg x2) (gl M 1013))) 1012 (vp_updL (al (ul M 1012 (vp_updL (al M 1012) (Int32.toNatClampNeg x2) (gl M 1013))) 1012) (Int32.toNatClampNeg (x2 + (1 : Int32))) (gl (ul M 1012 (vp_updL (al M 1012) (Int32.toNatClampNeg x2) (gl M 1013))) 1014))) 1012) (Int32.toNatClampNeg (x2 + (2 : Int32))) (Int32.toInt64 (gi (ul (ul M 1012 (vp_updL (al M 1012) (Int32.toNatClampNeg x2) (gl M 1013))) 1012 (vp_updL (al (ul M 1012 (vp_updL (al M 1012) (Int32.toNatClampNeg x2) (gl M 1013))) 1012) (Int32.toNatClampNeg (x2 + (1 : Int32))) (gl (ul M 1012 (vp_updL (al M 1012) (Int32.toNatClampNeg x2) (gl M 1013))) 1014))) 1016)))) 1015))), O)) (rfl) ?_
  obtain ⟨hc5, hF⟩ := ck_i hF
  refine Ex_chk (b := ib (x2 + (4 : Int32)) 200) (pc' := 45) (L' := [some (.ref 1000), some (.ref 1012), some (.int x2)]) (st' := []) (σ' := (S, (ul (ul (ul (ul (ul M 1012 (vp_updL (al M 1012) (Int32.toNatClampNeg x2) (gl M 1013))) 1012 (vp_updL (al (ul M 1012 (vp_updL (al M 1012) (Int32.toNatClampNeg x2) (gl M 1013))) 1012) (Int32.toNatClampNeg (x2 + (1 : Int32))) (gl (ul M 1012 (vp_updL (al M 1012) (Int32.toNatClampNeg x2) (gl M 1013))) 1014))) 1012 (vp_updL (al (ul (ul M 1012 (vp_updL (al M 1012) (Int32.toNatClampNeg x2) (gl M 1013))) 1012 (vp_updL (al (ul M 1012 (vp_updL (al M 1012) (Int32.toNatClampNeg x2) (gl M 1013))) 1012) (Int32.toNatClampNeg (x2 + (1 : Int32))) (gl (ul M 1012 (vp_updL (al M 1012) (Int32.toNatClampNeg x2) (gl M 1013))) 1014))) 1012) (Int32.toNatClampNeg (x2 + (2 : Int32))) (Int32.toInt64 (gi (ul (ul M 1012 (vp_updL (al M 1012) (Int32.toNatClampNeg x2) (gl M 1013))) 1012 (vp_updL (al (ul M 1012 (vp_updL (al M 1012) (Int32.toNatClampNeg x2) (gl M 1013))) 1012) (Int32.toNatClampNeg (x2 + (1 : Int32))) (gl (ul M 1012 (vp_updL (al M 1012) (Int32.toNatClampNeg x2) (gl M 1013))) 1014))) 1016)))) 1012 (vp_updL (al (ul (ul (ul M 1012 (vp_updL (al M 1012) (Int32.toNatClampNeg x2) (gl M 1013))) 1012 (vp_updL (al (ul M 1012 (vp_updL (al M 1012) (Int32.toNatClampNeg x2) (gl M 1013))) 1012) (Int32.toNatClampNeg (x2 + (1 : Int32))) (gl (ul M 1012 (vp_updL (al M 1012) (Int32.toNatClampNeg x2) (gl M 1013))) 1014))) 1012 (vp_updL (al (ul (ul M 1012 (vp_updL (al M 1012) (Int32.toNatClampNeg x2) (gl M 1013))) 1012 (vp_updL (al (ul M 1012 (vp_updL (al M 1012) (Int32.toNatClampNeg x2) (gl M 1013))) 1012) (Int32.toNatClampNeg (x2 + (1 : Int32))) (gl (ul M 1012 (vp_updL (al M 1012) (Int32.toNatClampNeg x2) (gl M 1013))) 1014))) 1012) (Int32.toNatClampNeg (x2 + (2 : Int32))) (Int32.toInt64 (gi (ul (ul M 1012 (vp_updL (al M 1012) (Int32.toNatClampNeg x2) (gl M 1013))) 1012 (vp_updL (al (ul M 1012 (vp_updL (al M 1012) (Int32.toNatClampNeg x2) (gl M 1013))) 1012) (Int32.toNatClampNeg (x2 + (1 : Int32))) (gl (ul M 1012 (vp_updL (al M 1012) (Int32.toNatClampNeg x2) (gl M 1013))) 1014))) 1016)))) 1012) (Int32.toNatClampNeg (x2 + (3 : Int32))) (gl (ul (ul (ul M 1012 (vp_updL (al M 1012) (Int32.toNatClampNeg x2) (gl M 1013))) 1012 (vp_updL (al (ul M 1012 (vp_updL (al M 1012) (Int32.toNatClampNeg x2) (gl M 1013))) 1012) (Int32.toNatClampNeg (x2 + (1 : Int32))) (gl (ul M 1012 (vp_updL (al M 1012) (Int32.toNatClampNeg x2) (gl M 1013))) 1014))) 1012 (vp_updL (al (ul (ul M 1012 (vp_updL (al M 1012) (Int32.toNatClampNeg x2) (gl M 1013))) 1012 (vp_updL (al (ul M 1012 (vp_updL (al M 1012) (Int32.toNatClampNeg x2) (gl M 1013))) 1012) (Int32.toNatClampNeg (x2 + (1 : Int32))) (gl (ul M 1012 (vp_updL (al M 1012) (Int32.toNatClampNeg x2) (gl M 1013))) 1014))) 1012) (Int32.toNatClampNeg (x2 + (2 : Int32))) (Int32.toInt64 (gi (ul (ul M 1012 (vp_updL (al M 1012) (Int32.toNatClampNeg x2) (gl M 1013))) 1012 (vp_updL (al (ul M 1012 (vp_updL (al M 1012) (Int32.toNatClampNeg x2) (gl M 1013))) 1012) (Int32.toNatClampNeg (x2 + (1 : Int32))) (gl (ul M 1012 (vp_updL (al M 1012) (Int32.toNatClampNeg x2) (gl M 1013))) 1014))) 1016)))) 1015))) 1012 (vp_updL (al (ul (ul (ul (ul M 1012 (vp_updL (al M 1012) (Int32.toNatClampNeg x2) (gl M 1013))) 1012 (vp_updL (al (ul M 1012 (vp_updL (al M 1012) (Int32.toNatClampNeg x2) (gl M 1013))) 1012) (Int32.toNatClampNeg (x2 + (1 : Int32))) (gl (ul M 1012 (vp_updL (al M 1012) (Int32.toNatClampNeg x2) (gl M 1013))) 1014))) 1012 (vp_updL (al (ul (ul M 1012 (vp_updL (al M 1012) (Int32.toNatClampNeg x2) (gl M 1013))) 1012 (vp_updL (al (ul M 1012 (vp_updL (al M 1012) (Int32.toNatClampNeg x2) (gl M 1013))) 1012) (Int32.toNatClampNeg (x2 + (1 : Int32))) (gl (ul M 1012 (vp_updL (al M 1012) (Int32.toNatClampNeg x2) (gl M 1013))) 1014))) 1012) (Int32.toNatClampNeg (x2 + (2 : Int32))) (Int32.toInt64 (gi (ul (ul M 1012 (vp_updL (al M 1012) (Int32.toNatClampNeg x2) (gl M 1013))) 1012 (vp_updL (al (ul M 1012 (vp_updL (al M 1012) (Int32.toNatClampNeg x2) (gl M 1013))) 1012) (Int32.toNatClampNeg (x2 + (1 : Int32))) (gl (ul M 1012 (vp_updL (al M 1012) (Int32.toNatClampNeg x2) (gl M 1013))) 1014))) 1016)))) 1012 (vp_updL (al (ul (ul (ul M 1012 (vp_updL (al M 1012) (Int32.toNatClampNeg x2) (gl M 1013))) 1012 (vp_updL (al (ul M 1012 (vp_updL (al M 1012) (Int32.toNatClampNeg x2) (gl M 1013))) 1012) (Int32.toNatClampNeg (x2 + (1 : Int32))) (gl (ul M 1012 (vp_updL (al M 1012) (Int32.toNatClampNeg x2) (gl M 1013))) 1014))) 1012 (vp_updL (al (ul (ul M 1012 (vp_updL (al M 1012) (Int32.toNatClampNeg x2) (gl M 1013))) 1012 (vp_updL (al (ul M 1012 (vp_updL (al M 1012) (Int32.toNatClampNeg x2) (gl M 1013))) 1012) (Int32.toNatClampNeg (x2 + (1 : Int32))) (gl (ul M 1012 (vp_updL (al M 1012) (Int32.toNatClampNeg x2) (gl M 1013))) 1014))) 1012) (Int32.toNatClampNeg (x2 + (2 : Int32))) (Int32.toInt64 (gi (ul (ul M 1012 (vp_updL (al M 1012) (Int32.toNatClampNeg x2) (gl M 1013))) 1012 (vp_updL (al (ul M 1012 (vp_updL (al M 1012) (Int32.toNatClampNeg x2) (gl M 1013))) 1012) (Int32.toNatClampNeg (x2 + (1 : Int32))) (gl (ul M 1012 (vp_updL (al M 1012) (Int32.toNatClampNeg x2) (gl M 1013))) 1014))) 1016)))) 1012) (Int32.toNatClampNeg (x2 + (3 : Int32))) (gl (ul (ul (ul M 1012 (vp_updL (al M 1012) (Int32.toNatClampNeg x2) (gl M 1013))) 1012 (vp_updL (al (ul M 1012 (vp_updL (al M 1012) (Int32.toNatClampNeg x2) (gl M 1013))) 1012) (Int32.toNatClampNeg (x2 + (1 : Int32))) (gl (ul M 1012 (vp_updL (al M 1012) (Int32.toNatClampNeg x2) (gl M 1013))) 1014))) 1012 (vp_updL (al (ul (ul M 1012 (vp_updL (al M 1012) (Int32.toNatClampNeg x2) (gl M 1013))) 1012 (vp_updL (al (ul M 1012 (vp_updL (al M 1012) (Int32.toNatClampNeg x2) (gl M 1013))) 1012) (Int32.toNatClampNeg (x2 + (1 : Int32))) (gl (ul M 1012 (vp_updL (al M 1012) (Int32.toNatClampNeg x2) (gl M 1013))) 1014))) 1012) (Int32.toNatClampNeg (x2 + (2 : Int32))) (Int32.toInt64 (gi (ul (ul M 1012 (vp_updL (al M 1012) (Int32.toNatClampNeg x2) (gl M 1013))) 1012 (vp_updL (al (ul M 1012 (vp_updL (al M 1012) (Int32.toNatClampNeg x2) (gl M 1013))) 1012) (Int32.toNatClampNeg (x2 + (1 : Int32))) (gl (ul M 1012 (vp_updL (al M 1012) (Int32.toNatClampNeg x2) (gl M 1013))) 1014))) 1016)))) 1015))) 1012) (Int32.toNatClampNeg (x2 + (4 : Int32))) (Int32.toInt64 (gi (ul (ul (ul (ul M 1012 (vp_updL (al M 1012) (Int32.toNatClampNeg x2) (gl M 1013))) 1012 (vp_updL (al (ul M 1012 (vp_updL (al M 1012) (Int32.toNatClampNeg x2) (gl M 1013))) 1012) (Int32.toNatClampNeg (x2 + (1 : Int32))) (gl (ul M 1012 (vp_updL (al M 1012) (Int32.toNatClampNeg x2) (gl M 1013))) 1014))) 1012 (vp_updL (al (ul (ul M 1012 (vp_updL (al M 1012) (Int32.toNatClampNeg x2) (gl M 1013))) 1012 (vp_updL (al (ul M 1012 (vp_updL (al M 1012) (Int32.toNatClampNeg x2) (gl M 1013))) 1012) (Int32.toNatClampNeg (x2 + (1 : Int32))) (gl (ul M 1012 (vp_updL (al M 1012) (Int32.toNatClampNeg x2) (gl M 1013))) 1014))) 1012) (Int32.toNatClampNeg (x2 + (2 : Int32))) (Int32.toInt64 (gi (ul (ul M 1012 (vp_updL (al M 1012) (Int32.toNatClampNeg x2) (gl M 1013))) 1012 (vp_updL (al (ul M 1012 (vp_updL (al M 1012) (Int32.toNatClampNeg x2) (gl M 1013))) 1012) (Int32.toNatClampNeg (x2 + (1 : Int32))) (gl (ul M 1012 (vp_updL (al M 1012) (Int32.toNatClampNeg x2) (gl M 1013))) 1014))) 1016)))) 1012 (vp_updL (al (ul (ul (ul M 1012 (vp_updL (al M 1012) (Int32.toNatClampNeg x2) (gl M 1013))) 1012 (vp_updL (al (ul M 1012 (vp_updL (al M 1012) (Int32.toNatClampNeg x2) (gl M 1013))) 1012) (Int32.toNatClampNeg (x2 + (1 : Int32))) (gl (ul M 1012 (vp_updL (al M 1012) (Int32.toNatClampNeg x2) (gl M 1013))) 1014))) 1012 (vp_updL (al (ul (ul M 1012 (vp_updL (al M 1012) (Int32.toNatClampNeg x2) (gl M 1013))) 1012 (vp_updL (al (ul M 1012 (vp_updL (al M 1012) (Int32.toNatClampNeg x2) (gl M 1013))) 1012) (Int32.toNatClampNeg (x2 + (1 : Int32))) (gl (ul M 1012 (vp_updL (al M 1012) (Int32.toNatClampNeg x2) (gl M 1013))) 1014))) 1012) (Int32.toNatClampNeg (x2 + (2 : Int32))) (Int32.toInt64 (gi (ul (ul M 1012 (vp_updL (al M 1012) (Int32.toNatClampNeg x2) (gl M 1013))) 1012 (vp_updL (al (ul M 1012 (vp_updL (al M 1012) (Int32.toNatClampNeg x2) (gl M 1013))) 1012) (Int32.toNatClampNeg (x2 + (1 : Int32))) (gl (ul M 1012 (vp_updL (al M 1012) (Int32.toNatClampNeg x2) (gl M 1013))) 1014))) 1016)))) 1012) (Int32.toNatClampNeg (x2 + (3 : Int32))) (gl (ul (ul (ul M 1012 (vp_updL (al M 1012) (Int32.toNatClampNeg x2) (gl M 1013))) 1012 (vp_updL (al (ul M 1012 (vp_updL (al M 1012) (Int32.toNatClampNeg x2) (gl M 1013))) 1012) (Int32.toNatClampNeg (x2 + (1 : Int32))) (gl (ul M 1012 (vp_updL (al M 1012) (Int32.toNatClampNeg x2) (gl M 1013))) 1014))) 1012 (vp_updL (al (ul (ul M 1012 (vp_updL (al M 1012) (Int32.toNatClampNeg x2) (gl M 1013))) 1012 (vp_updL (al (ul M 1012 (vp_updL (al M 1012) (Int32.toNatClampNeg x2) (gl M 1013))) 1012) (Int32.toNatClampNeg (x2 + (1 : Int32))) (gl (ul M 1012 (vp_updL (al M 1012) (Int32.toNatClampNeg x2) (gl M 1013))) 1014))) 1012) (Int32.toNatClampNeg (x2 + (2 : Int32))) (Int32.toInt64 (gi (ul (ul M 1012 (vp_updL (al M 1012) (Int32.toNatClampNeg x2) (gl M 1013))) 1012 (vp_updL (al (ul M 1012 (vp_updL (al M 1012) (Int32.toNatClampNeg x2) (gl M 1013))) 1012) (Int32.toNatClampNeg (x2 + (1 : Int32))) (gl (ul M 1012 (vp_updL (al M 1012) (Int32.toNatClampNeg x2) (gl M 1013))) 1014))) 1016)))) 1015))) 1017)))), O)) rfl hc5 ?_
  cases hF
  exact Ex_fin rfl
def F_m_keep_50 (M : Sto) : Option (Unit × Sto) := b2 (F_m_pack_1000_1012 ((5 : Int32) * (gi M 1018)) M) (fun r1 M3 => some ((), (si M3 1018 ((gi M3 1018) + (1 : Int32)))))
set_option maxRecDepth 100000 in
theorem X_m_keep_50 {nL : Nat} {xs : Nat → Int32} {S : Sto} {O : Sto} {d : Nat} (hd : 2 ≤ d) : ∀ (M : Sto) (r : Unit) (M' : Sto), F_m_keep_50 M = some (r, M') → EX nL xs 0 MI_103 d 50 [some (.ref 1000), none] [] (S, M, O) (.inl none) (S, M', O) := by
  intro M r M' hF
  unfold F_m_keep_50 at hF
  refine Ex_go 7 (pc' := 61) (L' := [some (.ref 1000), none]) (st' := [.int ((5 : Int32) * (gi M 1018)), .ref 1012, .ref 1000]) (σ' := (S, M, O)) (rfl) ?_
  obtain ⟨r1, M3, hx2, hF⟩ := b2_i hF
  refine Ex_call (kind := 2) (y := 102) (as := [.ref 1000, .ref 1012, .int ((5 : Int32) * (gi M 1018))]) (rest := []) (L0 := [some (.ref 1000), some (.ref 1012), some (.int ((5 : Int32) * (gi M 1018)))]) (d' := 1) (v := none) (σ1 := (S, M3, O)) rfl rfl mt_102 rfl rfl (by omega) (X_m_pack_1000_1012 (Nat.le_refl _) _ _ _ _ hx2) (Ex_st (st2 := []) rfl ?_)
  refine Ex_go 6 (pc' := 74) (L' := [some (.ref 1000), none]) (st' := []) (σ' := (S, (si M3 1018 ((gi M3 1018) + (1 : Int32))), O)) (rfl) ?_
  cases hF
  exact Ex_fin rfl
def F_m_keep_11 : Nat → Int32 → Sto → Option (Unit × Sto)
  | 0, _, _ => none
  | n + 1, x1, M => if (nI 200) ≤ x1 then F_m_keep_50 (si M 1018 ((gi M 1018) - (1 : Int32))) else ck (ib x1 200) (ck (ib (x1 - (5 : Int32)) 200) (F_m_keep_11 n (x1 + (1 : Int32)) (ul M 1012 (vp_updL (al M 1012) (Int32.toNatClampNeg (x1 - (5 : Int32))) (al M 1012 (Int32.toNatClampNeg x1))))))
set_option maxRecDepth 100000 in
theorem X_m_keep_11 {nL : Nat} {xs : Nat → Int32} {S : Sto} {O : Sto} {d : Nat} (hd : 2 ≤ d) : ∀ n : Nat, ∀ (x1 : Int32) (M : Sto) (r : Unit) (M' : Sto), F_m_keep_11 n x1 M = some (r, M') → EX nL xs 0 MI_103 d 11 [some (.ref 1000), some (.int x1)] [] (S, M, O) (.inl none) (S, M', O) := by
  intro n
  induction n with
  | zero => intro x1 M r M' hF; cases hF
  | succ n ih =>
  intro x1 M r M' hF
  unfold F_m_keep_11 at hF
  refine Ex_go 5 (pc' := if (nI 200) ≤ x1 then 40 else 20) (L' := [some (.ref 1000), some (.int x1)]) (st' := []) (σ' := (S, M, O)) (rfl) ?_
  refine Ex_br (fun hc => ?_) (fun hc => ?_)
  · rw [if_pos hc] at hF
    refine Ex_go 6 (pc' := 50) (L' := [some (.ref 1000), some (.int x1)]) (st' := []) (σ' := (S, (si M 1018 ((gi M 1018) - (1 : Int32))), O)) (rfl) ?_
    exact Ex_mono (L := [some (.ref 1000), none]) (Le_s (Le_n (Le_0))) (X_m_keep_50 hd _ _ _ hF) (Nat.le_refl _) (by omega)
  · rw [if_neg hc] at hF
    refine Ex_go 8 (pc' := 32) (L' := [some (.ref 1000), some (.int x1)]) (st' := [.int x1, .ref 1012, .int (x1 - (5 : Int32)), .ref 1012]) (σ' := (S, M, O)) (rfl) ?_
    obtain ⟨hc1, hF⟩ := ck_i hF
    refine Ex_chk (b := ib x1 200) (pc' := 33) (L' := [some (.ref 1000), some (.int x1)]) (st' := [.long (al M 1012 (Int32.toNatClampNeg x1)), .int (x1 - (5 : Int32)), .ref 1012]) (σ' := (S, M, O)) rfl hc1 ?_
    obtain ⟨hc2, hF⟩ := ck_i hF
    refine Ex_chk (b := ib (x1 - (5 : Int32)) 200) (pc' := 34) (L' := [some (.ref 1000), some (.int x1)]) (st' := []) (σ' := (S, (ul M 1012 (vp_updL (al M 1012) (Int32.toNatClampNeg (x1 - (5 : Int32))) (al M 1012 (Int32.toNatClampNeg x1)))), O)) rfl hc2 ?_
    refine Ex_go 2 (pc' := 11) (L' := [some (.ref 1000), some (.int (x1 + (1 : Int32)))]) (st' := []) (σ' := (S, (ul M 1012 (vp_updL (al M 1012) (Int32.toNatClampNeg (x1 - (5 : Int32))) (al M 1012 (Int32.toNatClampNeg x1)))), O)) (rfl) ?_
    exact Ex_mono (L := [some (.ref 1000), some (.int (x1 + (1 : Int32)))]) (Le_s (Le_s (Le_0))) (ih _ _ _ _ hF) (Nat.le_refl _) (by omega)
def F_m_keep (M : Sto) : Option (Unit × Sto) := if (gi M 1018) = (40 : Int32) then F_m_keep_11 FU (5 : Int32) M else F_m_keep_50 M
set_option maxRecDepth 100000 in
theorem X_m_keep {nL : Nat} {xs : Nat → Int32} {S : Sto} {O : Sto} {d : Nat} (hd : 2 ≤ d) : ∀ (M : Sto) (r : Unit) (M' : Sto), F_m_keep M = some (r, M') → EX nL xs 0 MI_103 d 0 [some (.ref 1000), none] [] (S, M, O) (.inl none) (S, M', O) := by
  intro M r M' hF
  unfold F_m_keep at hF
  refine Ex_go 4 (pc' := if ¬ (gi M 1018) = (40 : Int32) then 50 else 9) (L' := [some (.ref 1000), none]) (st' := []) (σ' := (S, M, O)) (rfl) ?_
  refine Ex_brN (fun hc => ?_) (fun hc => ?_)
  · rw [if_pos hc] at hF
    refine Ex_go 2 (pc' := 11) (L' := [some (.ref 1000), some (.int (5 : Int32))]) (st' := []) (σ' := (S, M, O)) (rfl) ?_
    exact Ex_mono (L := [some (.ref 1000), some (.int (5 : Int32))]) (Le_s (Le_s (Le_0))) (X_m_keep_11 hd FU _ _ _ _ hF) (Nat.le_refl _) (by omega)
  · rw [if_neg hc] at hF
    exact Ex_mono (L := [some (.ref 1000), none]) (Le_s (Le_n (Le_0))) (X_m_keep_50 hd _ _ _ hF) (Nat.le_refl _) (by omega)
def F_m_years_29 : Nat → Int32 → Int32 → Sto → Option (Int32 × Sto)
  | 0, _, _, _ => none
  | n + 1, x1, x2, M => if x1 ≤ x2 then b1 (F_m_bitsOf (gl M 1015)) (fun r1 => some (r1, M)) else b2 (F_m_spawned (gl M 1015) (gi M 1017) M) (fun r3 M5 => F_m_years_29 n x1 (x2 + (1 : Int32)) (si (sl M5 1015 r3) 1017 ((gi (sl M5 1015 r3) 1017) + (1 : Int32))))
set_option maxRecDepth 100000 in
theorem X_m_years_29 {nL : Nat} {xs : Nat → Int32} {S : Sto} {O : Sto} {d : Nat} (hd : 4 ≤ d) : ∀ n : Nat, ∀ (x1 : Int32) (x2 : Int32) (M : Sto) (r : Int32) (M' : Sto), F_m_years_29 n x1 x2 M = some (r, M') → EX nL xs 0 MI_119 d 29 [some (.ref 1000), some (.int x1), some (.int x2)] [] (S, M, O) (.inl (some (.int r))) (S, M', O) := by
  intro n
  induction n with
  | zero => intro x1 x2 M r M' hF; cases hF
  | succ n ih =>
  intro x1 x2 M r M' hF
  unfold F_m_years_29 at hF
  refine Ex_go 3 (pc' := if x1 ≤ x2 then 66 else 34) (L' := [some (.ref 1000), some (.int x1), some (.int x2)]) (st' := []) (σ' := (S, M, O)) (rfl) ?_
  refine Ex_br (fun hc => ?_) (fun hc => ?_)
  · rw [if_pos hc] at hF
    refine Ex_go 2 (pc' := 70) (L' := [some (.ref 1000), some (.int x1), some (.int x2)]) (st' := [.long (gl M 1015)]) (σ' := (S, M, O)) (rfl) ?_
    obtain ⟨r1, hx2, hF⟩ := b1_i hF
    refine Ex_call (kind := 0) (y := 85) (as := [.long (gl M 1015)]) (rest := []) (L0 := [some (.long (gl M 1015)), none, none, none, none]) (d' := 1) (v := some (.int r1)) (σ1 := (S, M, O)) rfl rfl mt_85 rfl rfl (by omega) (X_m_bitsOf (Nat.le_refl _) _ _ hx2) (Ex_st (st2 := [.int r1]) rfl ?_)
    cases hF
    exact Ex_fin rfl
  · rw [if_neg hc] at hF
    refine Ex_go 6 (pc' := 44) (L' := [some (.ref 1000), some (.int x1), some (.int x2)]) (st' := [.int (gi M 1017), .long (gl M 1015), .ref 1000, .ref 1000]) (σ' := (S, M, O)) (rfl) ?_
    obtain ⟨r3, M5, hx4, hF⟩ := b2_i hF
    refine Ex_call (kind := 2) (y := 118) (as := [.ref 1000, .long (gl M 1015), .int (gi M 1017)]) (rest := [.ref 1000]) (L0 := [some (.ref 1000), some (.long (gl M 1015)), none, some (.int (gi M 1017)), none, none, none, none]) (d' := 3) (v := some (.long r3)) (σ1 := (S, M5, O)) rfl rfl mt_118 rfl rfl (by omega) (X_m_spawned (Nat.le_refl _) _ _ _ _ _ hx4) (Ex_st (st2 := [.long r3, .ref 1000]) rfl ?_)
    refine Ex_go 9 (pc' := 29) (L' := [some (.ref 1000), some (.int x1), some (.int (x2 + (1 : Int32)))]) (st' := []) (σ' := (S, (si (sl M5 1015 r3) 1017 ((gi (sl M5 1015 r3) 1017) + (1 : Int32))), O)) (rfl) ?_
    exact Ex_mono (L := [some (.ref 1000), some (.int x1), some (.int (x2 + (1 : Int32)))]) (Le_s (Le_s (Le_s (Le_0)))) (ih _ _ _ _ _ hF) (Nat.le_refl _) (by omega)
def F_m_years (x1 : Int32) (M : Sto) : Option (Int32 × Sto) := b1 (F_m_isIn (Int32.toInt64 x1) (1 : Int64) (200 : Int64)) (fun r1 => if r1 = 0 then b2 (F_m_refuse (1 : Int32) (si M 1001 (0 : Int32))) (fun r6 M8 => some (r6, M8)) else b2 (F_m_keep (si M 1001 (0 : Int32))) (fun r3 M5 => F_m_years_29 FU x1 (0 : Int32) M5))
set_option maxRecDepth 100000 in
theorem X_m_years {nL : Nat} {xs : Nat → Int32} {S : Sto} {O : Sto} {d : Nat} (hd : 4 ≤ d) : ∀ (x1 : Int32) (M : Sto) (r : Int32) (M' : Sto), F_m_years x1 M = some (r, M') → EX nL xs 0 MI_119 d 0 [some (.ref 1000), some (.int x1), none] [] (S, M, O) (.inl (some (.int r))) (S, M', O) := by
  intro x1 M r M' hF
  unfold F_m_years at hF
  refine Ex_go 7 (pc' := 11) (L' := [some (.ref 1000), some (.int x1), none]) (st' := [.long (200 : Int64), .long (1 : Int64), .long (Int32.toInt64 x1)]) (σ' := (S, (si M 1001 (0 : Int32)), O)) (rfl) ?_
  obtain ⟨r1, hx2, hF⟩ := b1_i hF
  refine Ex_call (kind := 0) (y := 91) (as := [.long (Int32.toInt64 x1), .long (1 : Int64), .long (200 : Int64)]) (rest := []) (L0 := [some (.long (Int32.toInt64 x1)), none, some (.long (1 : Int64)), none, some (.long (200 : Int64)), none]) (d' := 1) (v := some (.int r1)) (σ1 := (S, (si M 1001 (0 : Int32)), O)) rfl rfl mt_91 rfl rfl (by omega) (X_m_isIn (Nat.le_refl _) _ _ _ _ hx2) (Ex_st (st2 := [.int r1]) rfl ?_)
  refine Ex_go 1 (pc' := if ¬ r1 = 0 then 23 else 17) (L' := [some (.ref 1000), some (.int x1), none]) (st' := []) (σ' := (S, (si M 1001 (0 : Int32)), O)) (rfl) ?_
  refine Ex_brN (fun hc => ?_) (fun hc => ?_)
  · rw [if_pos hc] at hF
    refine Ex_go 2 (pc' := 19) (L' := [some (.ref 1000), some (.int x1), none]) (st' := [.int (1 : Int32), .ref 1000]) (σ' := (S, (si M 1001 (0 : Int32)), O)) (rfl) ?_
    obtain ⟨r6, M8, hx7, hF⟩ := b2_i hF
    refine Ex_call (kind := 2) (y := 114) (as := [.ref 1000, .int (1 : Int32)]) (rest := []) (L0 := [some (.ref 1000), some (.int (1 : Int32))]) (d' := 1) (v := some (.int r6)) (σ1 := (S, M8, O)) rfl rfl mt_114 rfl rfl (by omega) (X_m_refuse (Nat.le_refl _) _ _ _ _ hx7) (Ex_st (st2 := [.int r6]) rfl ?_)
    cases hF
    exact Ex_fin rfl
  · rw [if_neg hc] at hF
    refine Ex_go 1 (pc' := 24) (L' := [some (.ref 1000), some (.int x1), none]) (st' := [.ref 1000]) (σ' := (S, (si M 1001 (0 : Int32)), O)) (rfl) ?_
    obtain ⟨r3, M5, hx4, hF⟩ := b2_i hF
    refine Ex_call (kind := 2) (y := 103) (as := [.ref 1000]) (rest := []) (L0 := [some (.ref 1000), none]) (d' := 2) (v := none) (σ1 := (S, M5, O)) rfl rfl mt_103 rfl rfl (by omega) (X_m_keep (Nat.le_refl _) _ _ _ hx4) (Ex_st (st2 := []) rfl ?_)
    refine Ex_go 2 (pc' := 29) (L' := [some (.ref 1000), some (.int x1), some (.int (0 : Int32))]) (st' := []) (σ' := (S, M5, O)) (rfl) ?_
    exact Ex_mono (L := [some (.ref 1000), some (.int x1), some (.int (0 : Int32))]) (Le_s (Le_s (Le_s (Le_0)))) (X_m_years_29 hd FU _ _ _ _ _ hF) (Nat.le_refl _) (by omega)
def F_w_lower_40 (x2 : Int32) (x3 : Int32) (s0 : Int32) (S : Sto) : Option ((Int32 ⊕ Nat) × Sto) := if s0 = x2 then b2 (F_Sc_refuse (1 : Int32) S) (fun r4 S6 => some ((.inl (0 : Int32)), S6)) else b2 (F_Sc_keepAct (1 : Int32) (Int32.toInt64 (gi S 28)) (0 : Int64) S) (fun r1 S3 => some ((.inl (1 : Int32)), (si S3 28 ((gi S3 28) ^^^ x3))))
set_option maxRecDepth 100000 in
theorem X_w_lower_40 {nL : Nat} {xs : Nat → Int32} {M : Sto} {O : Sto} {d : Nat} (hd : 8 ≤ d) : ∀ (x2 : Int32) (x3 : Int32) (s0 : Int32) (S : Sto) (r : Int32 ⊕ Nat) (S' : Sto), F_w_lower_40 x2 x3 s0 S = some (r, S') → EX nL xs 1 MI_105 d 40 [some (.ref 0), none, some (.int x2), some (.int x3)] [.int s0] (S, M, O) (rsI r) (S', M, O) := by
  intro x2 x3 s0 S r S' hF
  unfold F_w_lower_40 at hF
  refine Ex_go 2 (pc' := if ¬ s0 = x2 then 54 else 44) (L' := [some (.ref 0), none, some (.int x2), some (.int x3)]) (st' := []) (σ' := (S, M, O)) (rfl) ?_
  refine Ex_brN (fun hc => ?_) (fun hc => ?_)
  · rw [if_pos hc] at hF
    refine Ex_go 3 (pc' := 49) (L' := [some (.ref 0), none, some (.int x2), some (.int x3)]) (st' := [.int (1 : Int32), .ref 27]) (σ' := (S, M, O)) (rfl) ?_
    obtain ⟨r4, S6, hx5, hF⟩ := b2_i hF
    refine Ex_callK (K1 := 0) (K2 := 1) (kind := 2) (y := 37) (as := [.ref 27, .int (1 : Int32)]) (rest := []) (L0 := [some (.ref 27), some (.int (1 : Int32))]) (d' := 1) (v := none) (σ1 := (S6, M, O)) rfl rfl mt_37 rfl rfl (by omega) (X_Sc_refuse (Nat.le_refl _) _ _ _ _ hx5) (Ex_st (st2 := []) rfl ?_) (by omega)
    refine Ex_go 1 (pc' := 53) (L' := [some (.ref 0), none, some (.int x2), some (.int x3)]) (st' := [.int (0 : Int32)]) (σ' := (S6, M, O)) (rfl) ?_
    cases hF
    exact Ex_fin rfl
  · rw [if_neg hc] at hF
    refine Ex_go 8 (pc' := 68) (L' := [some (.ref 0), none, some (.int x2), some (.int x3)]) (st' := [.long (0 : Int64), .long (Int32.toInt64 (gi S 28)), .int (1 : Int32), .ref 27]) (σ' := (S, M, O)) (rfl) ?_
    obtain ⟨r1, S3, hx2, hF⟩ := b2_i hF
    refine Ex_callK (K1 := 0) (K2 := 1) (kind := 2) (y := 99) (as := [.ref 27, .int (1 : Int32), .long (Int32.toInt64 (gi S 28)), .long (0 : Int64)]) (rest := []) (L0 := [some (.ref 27), some (.int (1 : Int32)), some (.long (Int32.toInt64 (gi S 28))), none, some (.long (0 : Int64)), none, none]) (d' := 1) (v := none) (σ1 := (S3, M, O)) rfl rfl mt_99 rfl rfl (by omega) (X_Sc_keepAct (Nat.le_refl _) _ _ _ _ _ _ hx2) (Ex_st (st2 := []) rfl ?_) (by omega)
    refine Ex_go 9 (pc' := 88) (L' := [some (.ref 0), none, some (.int x2), some (.int x3)]) (st' := [.int (1 : Int32)]) (σ' := ((si S3 28 ((gi S3 28) ^^^ x3)), M, O)) (rfl) ?_
    cases hF
    exact Ex_fin rfl
def F_w_lower (x1 : Int32) (x2 : Int32) (S : Sto) : Option ((Int32 ⊕ Nat) × Sto) := b1 (F_Se_has x1 S) (fun r1 => if r1 = 0 then some ((.inr 1), S) else if ((gi S 28) &&& ((1 : Int32) <<< (x1 &&& 31))) = 0 then F_w_lower_40 x2 ((1 : Int32) <<< (x1 &&& 31)) (0 : Int32) S else F_w_lower_40 x2 ((1 : Int32) <<< (x1 &&& 31)) (1 : Int32) S)
set_option maxRecDepth 100000 in
theorem X_w_lower {nL : Nat} {xs : Nat → Int32} {M : Sto} {O : Sto} {d : Nat} (hd : 8 ≤ d) : ∀ (x1 : Int32) (x2 : Int32) (S : Sto) (r : Int32 ⊕ Nat) (S' : Sto), F_w_lower x1 x2 S = some (r, S') → EX nL xs 1 MI_105 d 0 [some (.ref 0), some (.int x1), some (.int x2), none] [] (S, M, O) (rsI r) (S', M, O) := by
  intro x1 x2 S r S' hF
  unfold F_w_lower at hF
  refine Ex_go 3 (pc' := 5) (L' := [some (.ref 0), some (.int x1), some (.int x2), none]) (st' := [.int x1, .ref 12]) (σ' := (S, M, O)) (rfl) ?_
  obtain ⟨r1, hx2, hF⟩ := b1_i hF
  refine Ex_callK (K1 := 0) (K2 := 1) (kind := 2) (y := 87) (as := [.ref 12, .int x1]) (rest := []) (L0 := [some (.ref 12), some (.int x1)]) (d' := 1) (v := some (.int r1)) (σ1 := (S, M, O)) rfl rfl mt_87 rfl rfl (by omega) (X_Se_has (Nat.le_refl _) _ _ _ hx2) (Ex_st (st2 := [.int r1]) rfl ?_) (by omega)
  refine Ex_go 1 (pc' := if ¬ r1 = 0 then 19 else 11) (L' := [some (.ref 0), some (.int x1), some (.int x2), none]) (st' := []) (σ' := (S, M, O)) (rfl) ?_
  refine Ex_brN (fun hc => ?_) (fun hc => ?_)
  · rw [if_pos hc] at hF
    cases hF
    exact Ex_thr rfl (by omega) (Nat.le_refl _)
  · rw [if_neg hc] at hF
    refine Ex_go 10 (pc' := if ((gi S 28) &&& ((1 : Int32) <<< (x1 &&& 31))) = 0 then 39 else 35) (L' := [some (.ref 0), some (.int x1), some (.int x2), some (.int ((1 : Int32) <<< (x1 &&& 31)))]) (st' := []) (σ' := (S, M, O)) (rfl) ?_
    refine Ex_br (fun hc => ?_) (fun hc => ?_)
    · rw [if_pos hc] at hF
      refine Ex_go 1 (pc' := 40) (L' := [some (.ref 0), some (.int x1), some (.int x2), some (.int ((1 : Int32) <<< (x1 &&& 31)))]) (st' := [.int (0 : Int32)]) (σ' := (S, M, O)) (rfl) ?_
      exact Ex_mono (L := [some (.ref 0), none, some (.int x2), some (.int ((1 : Int32) <<< (x1 &&& 31)))]) (Le_s (Le_n (Le_s (Le_s (Le_0))))) (X_w_lower_40 hd _ _ _ _ _ _ hF) (Nat.le_refl _) (by omega)
    · rw [if_neg hc] at hF
      refine Ex_go 2 (pc' := 40) (L' := [some (.ref 0), some (.int x1), some (.int x2), some (.int ((1 : Int32) <<< (x1 &&& 31)))]) (st' := [.int (1 : Int32)]) (σ' := (S, M, O)) (rfl) ?_
      exact Ex_mono (L := [some (.ref 0), none, some (.int x2), some (.int ((1 : Int32) <<< (x1 &&& 31)))]) (Le_s (Le_n (Le_s (Le_s (Le_0))))) (X_w_lower_40 hd _ _ _ _ _ _ hF) (Nat.le_refl _) (by omega)
def F_l_lower_16 (s1 : Int32) (s2 : Int64) (S : Sto) (O : Sto) : Option (Int32 × Sto × Sto) := ck (ib s1 1) (some ((0 : Int32), S, (ul O 2000 (vp_updL (al O 2000) (Int32.toNatClampNeg s1) s2))))
set_option maxRecDepth 100000 in
theorem X_l_lower_16 {nL : Nat} {xs : Nat → Int32} {M : Sto} {d : Nat} (hd : 9 ≤ d) : ∀ (s1 : Int32) (s2 : Int64) (S : Sto) (O : Sto) (r : Int32) (S' : Sto) (O' : Sto), F_l_lower_16 s1 s2 S O = some (r, S', O') → EX nL xs 0 MI_106 d 16 [none, none, none, none, none] [.long s2, .int s1, .ref 2000] (S, M, O) (.inl (some (.int r))) (S', M, O') := by
  intro s1 s2 S O r S' O' hF
  unfold F_l_lower_16 at hF
  obtain ⟨hc1, hF⟩ := ck_i hF
  refine Ex_chk (b := ib s1 1) (pc' := 17) (L' := [none, none, none, none, none]) (st' := []) (σ' := (S, M, (ul O 2000 (vp_updL (al O 2000) (Int32.toNatClampNeg s1) s2)))) rfl hc1 ?_
  refine Ex_go 2 (pc' := 25) (L' := [none, none, none, none, none]) (st' := [.int (0 : Int32)]) (σ' := (S, M, (ul O 2000 (vp_updL (al O 2000) (Int32.toNatClampNeg s1) s2)))) (rfl) ?_
  cases hF
  exact Ex_fin rfl
def F_l_lower (x1 : Int32) (x2 : Int32) (S : Sto) (O : Sto) : Option (Int32 × Sto × Sto) := b2 (F_w_lower x1 x2 S) (fun r1 S3 => su r1 (fun v4 => if v4 = 0 then F_l_lower_16 (0 : Int32) (0 : Int64) S3 O else F_l_lower_16 (0 : Int32) (1 : Int64) S3 O) (fun z5 => if z5 = 1 then some ((1 : Int32), S3, O) else (none)))
set_option maxRecDepth 100000 in
theorem X_l_lower {nL : Nat} {xs : Nat → Int32} {M : Sto} {d : Nat} (hd : 9 ≤ d) : ∀ (x1 : Int32) (x2 : Int32) (S : Sto) (O : Sto) (r : Int32) (S' : Sto) (O' : Sto), F_l_lower x1 x2 S O = some (r, S', O') → EX nL xs 1 MI_106 d 0 [some (.ref 0), some (.int x1), some (.int x2), some (.ref 2000), none] [] (S, M, O) (.inl (some (.int r))) (S', M, O') := by
  intro x1 x2 S O r S' O' hF
  unfold F_l_lower at hF
  refine Ex_go 5 (pc' := 5) (L' := [some (.ref 0), some (.int x1), some (.int x2), some (.ref 2000), none]) (st' := [.int x2, .int x1, .ref 0, .int (0 : Int32), .ref 2000]) (σ' := (S, M, O)) (rfl) ?_
  obtain ⟨r1, S3, hx2, hF⟩ := b2_i hF
  cases r1 with
  | inl v4 =>
    rw [su_l] at hF
    refine Ex_callK (K1 := 1) (K2 := 0) (kind := 3) (y := 105) (as := [.ref 0, .int x1, .int x2]) (rest := [.int (0 : Int32), .ref 2000]) (L0 := [some (.ref 0), some (.int x1), some (.int x2), none]) (d' := 8) (v := some (.int v4)) (σ1 := (S3, M, O)) rfl rfl mt_105 rfl rfl (by omega) (X_w_lower (Nat.le_refl _) _ _ _ _ _ hx2) (Ex_st (st2 := [.int v4, .int (0 : Int32), .ref 2000]) rfl ?_) (by omega)
    refine Ex_go 1 (pc' := if v4 = 0 then 15 else 11) (L' := [some (.ref 0), some (.int x1), some (.int x2), some (.ref 2000), none]) (st' := [.int (0 : Int32), .ref 2000]) (σ' := (S3, M, O)) (rfl) ?_
    refine Ex_br (fun hc => ?_) (fun hc => ?_)
    · rw [if_pos hc] at hF
      refine Ex_go 1 (pc' := 16) (L' := [some (.ref 0), some (.int x1), some (.int x2), some (.ref 2000), none]) (st' := [.long (0 : Int64), .int (0 : Int32), .ref 2000]) (σ' := (S3, M, O)) (rfl) ?_
      exact Ex_mono (L := [none, none, none, none, none]) (Le_n (Le_n (Le_n (Le_n (Le_n (Le_0)))))) (X_l_lower_16 hd _ _ _ _ _ _ _ hF) (Nat.le_refl _) (by omega)
    · rw [if_neg hc] at hF
      refine Ex_go 2 (pc' := 16) (L' := [some (.ref 0), some (.int x1), some (.int x2), some (.ref 2000), none]) (st' := [.long (1 : Int64), .int (0 : Int32), .ref 2000]) (σ' := (S3, M, O)) (rfl) ?_
      exact Ex_mono (L := [none, none, none, none, none]) (Le_n (Le_n (Le_n (Le_n (Le_n (Le_0)))))) (X_l_lower_16 hd _ _ _ _ _ _ _ hF) (Nat.le_refl _) (by omega)
  | inr z5 =>
    by_cases hz1 : z5 = 1
    · have hF : (if z5 = 1 then _ else _) = _ := hF
      rw [if_pos hz1] at hF
      subst hz1
      refine Ex_callX (K1 := 1) (K2 := 0) (y := 105) (as := [.ref 0, .int x1, .int x2]) (rest := [.int (0 : Int32), .ref 2000]) (L0 := [some (.ref 0), some (.int x1), some (.int x2), none]) (d' := 8) (σ1 := (S3, M, O)) (x := 1) (pc' := 22) (i := 4) rfl rfl mt_105 rfl rfl (by omega) (X_w_lower (Nat.le_refl _) _ _ _ _ _ hx2) rfl (Ex_L (L2 := [some (.ref 0), some (.int x1), some (.int x2), some (.ref 2000), none]) rfl ?_) (by omega)
      refine Ex_go 1 (pc' := 23) (L' := [some (.ref 0), some (.int x1), some (.int x2), some (.ref 2000), none]) (st' := [.int (1 : Int32)]) (σ' := (S3, M, O)) (rfl) ?_
      cases hF
      exact Ex_fin rfl
    have hF : (if z5 = 1 then _ else _) = _ := hF
    rw [if_neg hz1] at hF
    cases hF
def F_m_lower_47 (x1 : Int32) (s0 : Int32) (s1 : Int32) (M : Sto) : Option (Int32 × Sto) := if s0 = s1 then some ((0 : Int32), (ui M 1008 (upd (ai M 1008) (Int32.toNatClampNeg (1 : Int32)) ((ai M 1008 (Int32.toNatClampNeg (1 : Int32))) + (1 : Int32))))) else b2 (F_m_keep M) (fun r1 M3 => some ((1 : Int32), (si M3 1016 ((gi M3 1016) ^^^ ((1 : Int32) <<< (x1 &&& 31))))))
set_option maxRecDepth 100000 in
theorem X_m_lower_47 {nL : Nat} {xs : Nat → Int32} {S : Sto} {O : Sto} {d : Nat} (hd : 3 ≤ d) : ∀ (x1 : Int32) (s0 : Int32) (s1 : Int32) (M : Sto) (r : Int32) (M' : Sto), F_m_lower_47 x1 s0 s1 M = some (r, M') → EX nL xs 0 MI_107 d 47 [some (.ref 1000), some (.int x1), none] [.int s1, .int s0] (S, M, O) (.inl (some (.int r))) (S, M', O) := by
  intro x1 s0 s1 M r M' hF
  unfold F_m_lower_47 at hF
  refine Ex_go 1 (pc' := if ¬ s0 = s1 then 62 else 50) (L' := [some (.ref 1000), some (.int x1), none]) (st' := []) (σ' := (S, M, O)) (rfl) ?_
  refine Ex_brN (fun hc => ?_) (fun hc => ?_)
  · rw [if_pos hc] at hF
    refine Ex_go 4 (pc' := 56) (L' := [some (.ref 1000), some (.int x1), none]) (st' := [.int (1 : Int32), .ref 1008, .int (1 : Int32), .ref 1008]) (σ' := (S, M, O)) (rfl) ?_
    refine Ex_chk (b := ib (1 : Int32) 3) (pc' := 57) (L' := [some (.ref 1000), some (.int x1), none]) (st' := [.int (ai M 1008 (Int32.toNatClampNeg (1 : Int32))), .int (1 : Int32), .ref 1008]) (σ' := (S, M, O)) rfl (by decide) ?_
    refine Ex_go 2 (pc' := 59) (L' := [some (.ref 1000), some (.int x1), none]) (st' := [.int ((ai M 1008 (Int32.toNatClampNeg (1 : Int32))) + (1 : Int32)), .int (1 : Int32), .ref 1008]) (σ' := (S, M, O)) (rfl) ?_
    refine Ex_chk (b := ib (1 : Int32) 3) (pc' := 60) (L' := [some (.ref 1000), some (.int x1), none]) (st' := []) (σ' := (S, (ui M 1008 (upd (ai M 1008) (Int32.toNatClampNeg (1 : Int32)) ((ai M 1008 (Int32.toNatClampNeg (1 : Int32))) + (1 : Int32)))), O)) rfl (by decide) ?_
    refine Ex_go 1 (pc' := 61) (L' := [some (.ref 1000), some (.int x1), none]) (st' := [.int (0 : Int32)]) (σ' := (S, (ui M 1008 (upd (ai M 1008) (Int32.toNatClampNeg (1 : Int32)) ((ai M 1008 (Int32.toNatClampNeg (1 : Int32))) + (1 : Int32)))), O)) (rfl) ?_
    cases hF
    exact Ex_fin rfl
  · rw [if_neg hc] at hF
    refine Ex_go 1 (pc' := 63) (L' := [some (.ref 1000), some (.int x1), none]) (st' := [.ref 1000]) (σ' := (S, M, O)) (rfl) ?_
    obtain ⟨r1, M3, hx2, hF⟩ := b2_i hF
    refine Ex_call (kind := 2) (y := 103) (as := [.ref 1000]) (rest := []) (L0 := [some (.ref 1000), none]) (d' := 2) (v := none) (σ1 := (S, M3, O)) rfl rfl mt_103 rfl rfl (by omega) (X_m_keep (Nat.le_refl _) _ _ _ hx2) (Ex_st (st2 := []) rfl ?_)
    refine Ex_go 9 (pc' := 79) (L' := [some (.ref 1000), some (.int x1), none]) (st' := [.int (1 : Int32)]) (σ' := (S, (si M3 1016 ((gi M3 1016) ^^^ ((1 : Int32) <<< (x1 &&& 31)))), O)) (rfl) ?_
    cases hF
    exact Ex_fin rfl
def F_m_lower (x1 : Int32) (x2 : Int32) (M : Sto) : Option (Int32 × Sto) := b1 (F_m_isIn (Int32.toInt64 x1) (0 : Int64) (Int32.toInt64 ((ai (si M 1001 (0 : Int32)) 1003 (Int32.toNatClampNeg (0 : Int32))) - (1 : Int32)))) (fun r1 => if r1 = 0 then some ((0 : Int32), (si (si M 1001 (0 : Int32)) 1001 (1 : Int32))) else if x2 = 0 then F_m_lower_47 x1 (((gi (si M 1001 (0 : Int32)) 1016) >>> (x1 &&& 31)) &&& (1 : Int32)) (0 : Int32) (si M 1001 (0 : Int32)) else F_m_lower_47 x1 (((gi (si M 1001 (0 : Int32)) 1016) >>> (x1 &&& 31)) &&& (1 : Int32)) (1 : Int32) (si M 1001 (0 : Int32)))
set_option maxRecDepth 100000 in
theorem X_m_lower {nL : Nat} {xs : Nat → Int32} {S : Sto} {O : Sto} {d : Nat} (hd : 3 ≤ d) : ∀ (x1 : Int32) (x2 : Int32) (M : Sto) (r : Int32) (M' : Sto), F_m_lower x1 x2 M = some (r, M') → EX nL xs 0 MI_107 d 0 [some (.ref 1000), some (.int x1), some (.int x2)] [] (S, M, O) (.inl (some (.int r))) (S, M', O) := by
  intro x1 x2 M r M' hF
  unfold F_m_lower at hF
  refine Ex_go 9 (pc' := 13) (L' := [some (.ref 1000), some (.int x1), some (.int x2)]) (st' := [.int (0 : Int32), .ref 1003, .long (0 : Int64), .long (Int32.toInt64 x1)]) (σ' := (S, (si M 1001 (0 : Int32)), O)) (rfl) ?_
  refine Ex_chk (b := ib (0 : Int32) 6) (pc' := 14) (L' := [some (.ref 1000), some (.int x1), some (.int x2)]) (st' := [.int (ai (si M 1001 (0 : Int32)) 1003 (Int32.toNatClampNeg (0 : Int32))), .long (0 : Int64), .long (Int32.toInt64 x1)]) (σ' := (S, (si M 1001 (0 : Int32)), O)) rfl (by decide) ?_
  refine Ex_go 3 (pc' := 17) (L' := [some (.ref 1000), some (.int x1), some (.int x2)]) (st' := [.long (Int32.toInt64 ((ai (si M 1001 (0 : Int32)) 1003 (Int32.toNatClampNeg (0 : Int32))) - (1 : Int32))), .long (0 : Int64), .long (Int32.toInt64 x1)]) (σ' := (S, (si M 1001 (0 : Int32)), O)) (rfl) ?_
  obtain ⟨r1, hx2, hF⟩ := b1_i hF
  refine Ex_call (kind := 0) (y := 91) (as := [.long (Int32.toInt64 x1), .long (0 : Int64), .long (Int32.toInt64 ((ai (si M 1001 (0 : Int32)) 1003 (Int32.toNatClampNeg (0 : Int32))) - (1 : Int32)))]) (rest := []) (L0 := [some (.long (Int32.toInt64 x1)), none, some (.long (0 : Int64)), none, some (.long (Int32.toInt64 ((ai (si M 1001 (0 : Int32)) 1003 (Int32.toNatClampNeg (0 : Int32))) - (1 : Int32)))), none]) (d' := 1) (v := some (.int r1)) (σ1 := (S, (si M 1001 (0 : Int32)), O)) rfl rfl mt_91 rfl rfl (by omega) (X_m_isIn (Nat.le_refl _) _ _ _ _ hx2) (Ex_st (st2 := [.int r1]) rfl ?_)
  refine Ex_go 1 (pc' := if ¬ r1 = 0 then 30 else 23) (L' := [some (.ref 1000), some (.int x1), some (.int x2)]) (st' := []) (σ' := (S, (si M 1001 (0 : Int32)), O)) (rfl) ?_
  refine Ex_brN (fun hc => ?_) (fun hc => ?_)
  · rw [if_pos hc] at hF
    refine Ex_go 4 (pc' := 29) (L' := [some (.ref 1000), some (.int x1), some (.int x2)]) (st' := [.int (0 : Int32)]) (σ' := (S, (si (si M 1001 (0 : Int32)) 1001 (1 : Int32)), O)) (rfl) ?_
    cases hF
    exact Ex_fin rfl
  · rw [if_neg hc] at hF
    refine Ex_go 8 (pc' := if x2 = 0 then 46 else 42) (L' := [some (.ref 1000), some (.int x1), some (.int x2)]) (st' := [.int (((gi (si M 1001 (0 : Int32)) 1016) >>> (x1 &&& 31)) &&& (1 : Int32))]) (σ' := (S, (si M 1001 (0 : Int32)), O)) (rfl) ?_
    refine Ex_br (fun hc => ?_) (fun hc => ?_)
    · rw [if_pos hc] at hF
      refine Ex_go 1 (pc' := 47) (L' := [some (.ref 1000), some (.int x1), some (.int x2)]) (st' := [.int (0 : Int32), .int (((gi (si M 1001 (0 : Int32)) 1016) >>> (x1 &&& 31)) &&& (1 : Int32))]) (σ' := (S, (si M 1001 (0 : Int32)), O)) (rfl) ?_
      exact Ex_mono (L := [some (.ref 1000), some (.int x1), none]) (Le_s (Le_s (Le_n (Le_0)))) (X_m_lower_47 hd _ _ _ _ _ _ hF) (Nat.le_refl _) (by omega)
    · rw [if_neg hc] at hF
      refine Ex_go 2 (pc' := 47) (L' := [some (.ref 1000), some (.int x1), some (.int x2)]) (st' := [.int (1 : Int32), .int (((gi (si M 1001 (0 : Int32)) 1016) >>> (x1 &&& 31)) &&& (1 : Int32))]) (σ' := (S, (si M 1001 (0 : Int32)), O)) (rfl) ?_
      exact Ex_mono (L := [some (.ref 1000), some (.int x1), none]) (Le_s (Le_s (Le_n (Le_0)))) (X_m_lower_47 hd _ _ _ _ _ _ hF) (Nat.le_refl _) (by omega)
def F_w_waters_20 (S : Sto) : Option (Int32 × Sto) := b2 (F_Sc_refuse (1 : Int32) S) (fun r1 S3 => some ((0 : Int32), S3))
set_option maxRecDepth 100000 in
theorem X_w_waters_20 {nL : Nat} {xs : Nat → Int32} {M : Sto} {O : Sto} {d : Nat} (hd : 2 ≤ d) : ∀ (S : Sto) (r : Int32) (S' : Sto), F_w_waters_20 S = some (r, S') → EX nL xs 0 MI_100 d 20 [some (.ref 0), none, none, none, none] [] (S, M, O) (.inl (some (.int r))) (S', M, O) := by
  intro S r S' hF
  unfold F_w_waters_20 at hF
  refine Ex_go 3 (pc' := 25) (L' := [some (.ref 0), none, none, none, none]) (st' := [.int (1 : Int32), .ref 27]) (σ' := (S, M, O)) (rfl) ?_
  obtain ⟨r1, S3, hx2, hF⟩ := b2_i hF
  refine Ex_call (kind := 2) (y := 37) (as := [.ref 27, .int (1 : Int32)]) (rest := []) (L0 := [some (.ref 27), some (.int (1 : Int32))]) (d' := 1) (v := none) (σ1 := (S3, M, O)) rfl rfl mt_37 rfl rfl (by omega) (X_Sc_refuse (Nat.le_refl _) _ _ _ _ hx2) (Ex_st (st2 := []) rfl ?_)
  refine Ex_go 1 (pc' := 29) (L' := [some (.ref 0), none, none, none, none]) (st' := [.int (0 : Int32)]) (σ' := (S3, M, O)) (rfl) ?_
  cases hF
  exact Ex_fin rfl
def F_w_waters (x1 : Int64) (x3 : Int64) (S : Sto) : Option (Int32 × Sto) := b1 (F_w_isNumber x1) (fun r1 => if r1 = 0 then F_w_waters_20 S else b1 (F_w_isNumber x3) (fun r3 => if r3 = 0 then F_w_waters_20 S else if x1 ≤ x3 then b2 (F_Sc_keepAct (0 : Int32) (gl S 26) (gl S 27) S) (fun r5 S7 => some ((1 : Int32), (sl (sl S7 26 x1) 27 x3))) else F_w_waters_20 S))
set_option maxRecDepth 100000 in
theorem X_w_waters {nL : Nat} {xs : Nat → Int32} {M : Sto} {O : Sto} {d : Nat} (hd : 2 ≤ d) : ∀ (x1 : Int64) (x3 : Int64) (S : Sto) (r : Int32) (S' : Sto), F_w_waters x1 x3 S = some (r, S') → EX nL xs 0 MI_100 d 0 [some (.ref 0), some (.long x1), none, some (.long x3), none] [] (S, M, O) (.inl (some (.int r))) (S', M, O) := by
  intro x1 x3 S r S' hF
  unfold F_w_waters at hF
  refine Ex_go 1 (pc' := 1) (L' := [some (.ref 0), some (.long x1), none, some (.long x3), none]) (st' := [.long x1]) (σ' := (S, M, O)) (rfl) ?_
  obtain ⟨r1, hx2, hF⟩ := b1_i hF
  refine Ex_call (kind := 0) (y := 98) (as := [.long x1]) (rest := []) (L0 := [some (.long x1), none]) (d' := 1) (v := some (.int r1)) (σ1 := (S, M, O)) rfl rfl mt_98 rfl rfl (by omega) (X_w_isNumber (Nat.le_refl _) _ _ hx2) (Ex_st (st2 := [.int r1]) rfl ?_)
  refine Ex_go 1 (pc' := if r1 = 0 then 20 else 7) (L' := [some (.ref 0), some (.long x1), none, some (.long x3), none]) (st' := []) (σ' := (S, M, O)) (rfl) ?_
  refine Ex_br (fun hc => ?_) (fun hc => ?_)
  · rw [if_pos hc] at hF
    exact Ex_mono (L := [some (.ref 0), none, none, none, none]) (Le_s (Le_n (Le_n (Le_n (Le_n (Le_0)))))) (X_w_waters_20 hd _ _ _ hF) (Nat.le_refl _) (by omega)
  · rw [if_neg hc] at hF
    refine Ex_go 1 (pc' := 8) (L' := [some (.ref 0), some (.long x1), none, some (.long x3), none]) (st' := [.long x3]) (σ' := (S, M, O)) (rfl) ?_
    obtain ⟨r3, hx4, hF⟩ := b1_i hF
    refine Ex_call (kind := 0) (y := 98) (as := [.long x3]) (rest := []) (L0 := [some (.long x3), none]) (d' := 1) (v := some (.int r3)) (σ1 := (S, M, O)) rfl rfl mt_98 rfl rfl (by omega) (X_w_isNumber (Nat.le_refl _) _ _ hx4) (Ex_st (st2 := [.int r3]) rfl ?_)
    refine Ex_go 1 (pc' := if r3 = 0 then 20 else 14) (L' := [some (.ref 0), some (.long x1), none, some (.long x3), none]) (st' := []) (σ' := (S, M, O)) (rfl) ?_
    refine Ex_br (fun hc => ?_) (fun hc => ?_)
    · rw [if_pos hc] at hF
      exact Ex_mono (L := [some (.ref 0), none, none, none, none]) (Le_s (Le_n (Le_n (Le_n (Le_n (Le_0)))))) (X_w_waters_20 hd _ _ _ hF) (Nat.le_refl _) (by omega)
    · rw [if_neg hc] at hF
      refine Ex_go 4 (pc' := if (lg_cmp x1 x3) ≤ 0 then 30 else 20) (L' := [some (.ref 0), some (.long x1), none, some (.long x3), none]) (st' := []) (σ' := (S, M, O)) (rfl) ?_
      refine Ex_brI lc_le (fun hc => ?_) (fun hc => ?_)
      · rw [if_pos hc] at hF
        refine Ex_go 9 (pc' := 49) (L' := [some (.ref 0), some (.long x1), none, some (.long x3), none]) (st' := [.long (gl S 27), .long (gl S 26), .int (0 : Int32), .ref 27]) (σ' := (S, M, O)) (rfl) ?_
        obtain ⟨r5, S7, hx6, hF⟩ := b2_i hF
        refine Ex_call (kind := 2) (y := 99) (as := [.ref 27, .int (0 : Int32), .long (gl S 26), .long (gl S 27)]) (rest := []) (L0 := [some (.ref 27), some (.int (0 : Int32)), some (.long (gl S 26)), none, some (.long (gl S 27)), none, none]) (d' := 1) (v := none) (σ1 := (S7, M, O)) rfl rfl mt_99 rfl rfl (by omega) (X_Sc_keepAct (Nat.le_refl _) _ _ _ _ _ _ hx6) (Ex_st (st2 := []) rfl ?_)
        refine Ex_go 9 (pc' := 69) (L' := [some (.ref 0), some (.long x1), none, some (.long x3), none]) (st' := [.int (1 : Int32)]) (σ' := ((sl (sl S7 26 x1) 27 x3), M, O)) (rfl) ?_
        cases hF
        exact Ex_fin rfl
      · rw [if_neg hc] at hF
        exact Ex_mono (L := [some (.ref 0), none, none, none, none]) (Le_s (Le_n (Le_n (Le_n (Le_n (Le_0)))))) (X_w_waters_20 hd _ _ _ hF) (Nat.le_refl _) (by omega)
def F_m_waters_25 (M : Sto) : Option (Int32 × Sto) := some ((0 : Int32), (ui M 1008 (upd (ai M 1008) (Int32.toNatClampNeg (1 : Int32)) ((ai M 1008 (Int32.toNatClampNeg (1 : Int32))) + (1 : Int32)))))
set_option maxRecDepth 100000 in
theorem X_m_waters_25 {nL : Nat} {xs : Nat → Int32} {S : Sto} {O : Sto} {d : Nat} (hd : 3 ≤ d) : ∀ (M : Sto) (r : Int32) (M' : Sto), F_m_waters_25 M = some (r, M') → EX nL xs 0 MI_104 d 25 [some (.ref 1000), none, none, none, none] [] (S, M, O) (.inl (some (.int r))) (S, M', O) := by
  intro M r M' hF
  unfold F_m_waters_25 at hF
  refine Ex_go 4 (pc' := 31) (L' := [some (.ref 1000), none, none, none, none]) (st' := [.int (1 : Int32), .ref 1008, .int (1 : Int32), .ref 1008]) (σ' := (S, M, O)) (rfl) ?_
  refine Ex_chk (b := ib (1 : Int32) 3) (pc' := 32) (L' := [some (.ref 1000), none, none, none, none]) (st' := [.int (ai M 1008 (Int32.toNatClampNeg (1 : Int32))), .int (1 : Int32), .ref 1008]) (σ' := (S, M, O)) rfl (by decide) ?_
  refine Ex_go 2 (pc' := 34) (L' := [some (.ref 1000), none, none, none, none]) (st' := [.int ((ai M 1008 (Int32.toNatClampNeg (1 : Int32))) + (1 : Int32)), .int (1 : Int32), .ref 1008]) (σ' := (S, M, O)) (rfl) ?_
  refine Ex_chk (b := ib (1 : Int32) 3) (pc' := 35) (L' := [some (.ref 1000), none, none, none, none]) (st' := []) (σ' := (S, (ui M 1008 (upd (ai M 1008) (Int32.toNatClampNeg (1 : Int32)) ((ai M 1008 (Int32.toNatClampNeg (1 : Int32))) + (1 : Int32)))), O)) rfl (by decide) ?_
  refine Ex_go 1 (pc' := 36) (L' := [some (.ref 1000), none, none, none, none]) (st' := [.int (0 : Int32)]) (σ' := (S, (ui M 1008 (upd (ai M 1008) (Int32.toNatClampNeg (1 : Int32)) ((ai M 1008 (Int32.toNatClampNeg (1 : Int32))) + (1 : Int32)))), O)) (rfl) ?_
  cases hF
  exact Ex_fin rfl
def F_m_waters (x1 : Int64) (x3 : Int64) (M : Sto) : Option (Int32 × Sto) := b1 (F_m_isNumber x1) (fun r1 => if r1 = 0 then F_m_waters_25 (si M 1001 (0 : Int32)) else b1 (F_m_isNumber x3) (fun r3 => if r3 = 0 then F_m_waters_25 (si M 1001 (0 : Int32)) else if x1 ≤ x3 then b2 (F_m_keep (si M 1001 (0 : Int32))) (fun r5 M7 => some ((1 : Int32), (sl (sl M7 1013 x1) 1014 x3))) else F_m_waters_25 (si M 1001 (0 : Int32))))
set_option maxRecDepth 100000 in
theorem X_m_waters {nL : Nat} {xs : Nat → Int32} {S : Sto} {O : Sto} {d : Nat} (hd : 3 ≤ d) : ∀ (x1 : Int64) (x3 : Int64) (M : Sto) (r : Int32) (M' : Sto), F_m_waters x1 x3 M = some (r, M') → EX nL xs 0 MI_104 d 0 [some (.ref 1000), some (.long x1), none, some (.long x3), none] [] (S, M, O) (.inl (some (.int r))) (S, M', O) := by
  intro x1 x3 M r M' hF
  unfold F_m_waters at hF
  refine Ex_go 4 (pc' := 6) (L' := [some (.ref 1000), some (.long x1), none, some (.long x3), none]) (st' := [.long x1]) (σ' := (S, (si M 1001 (0 : Int32)), O)) (rfl) ?_
  obtain ⟨r1, hx2, hF⟩ := b1_i hF
  refine Ex_call (kind := 0) (y := 101) (as := [.long x1]) (rest := []) (L0 := [some (.long x1), none]) (d' := 2) (v := some (.int r1)) (σ1 := (S, (si M 1001 (0 : Int32)), O)) rfl rfl mt_101 rfl rfl (by omega) (X_m_isNumber (Nat.le_refl _) _ _ hx2) (Ex_st (st2 := [.int r1]) rfl ?_)
  refine Ex_go 1 (pc' := if r1 = 0 then 25 else 12) (L' := [some (.ref 1000), some (.long x1), none, some (.long x3), none]) (st' := []) (σ' := (S, (si M 1001 (0 : Int32)), O)) (rfl) ?_
  refine Ex_br (fun hc => ?_) (fun hc => ?_)
  · rw [if_pos hc] at hF
    exact Ex_mono (L := [some (.ref 1000), none, none, none, none]) (Le_s (Le_n (Le_n (Le_n (Le_n (Le_0)))))) (X_m_waters_25 hd _ _ _ hF) (Nat.le_refl _) (by omega)
  · rw [if_neg hc] at hF
    refine Ex_go 1 (pc' := 13) (L' := [some (.ref 1000), some (.long x1), none, some (.long x3), none]) (st' := [.long x3]) (σ' := (S, (si M 1001 (0 : Int32)), O)) (rfl) ?_
    obtain ⟨r3, hx4, hF⟩ := b1_i hF
    refine Ex_call (kind := 0) (y := 101) (as := [.long x3]) (rest := []) (L0 := [some (.long x3), none]) (d' := 2) (v := some (.int r3)) (σ1 := (S, (si M 1001 (0 : Int32)), O)) rfl rfl mt_101 rfl rfl (by omega) (X_m_isNumber (Nat.le_refl _) _ _ hx4) (Ex_st (st2 := [.int r3]) rfl ?_)
    refine Ex_go 1 (pc' := if r3 = 0 then 25 else 19) (L' := [some (.ref 1000), some (.long x1), none, some (.long x3), none]) (st' := []) (σ' := (S, (si M 1001 (0 : Int32)), O)) (rfl) ?_
    refine Ex_br (fun hc => ?_) (fun hc => ?_)
    · rw [if_pos hc] at hF
      exact Ex_mono (L := [some (.ref 1000), none, none, none, none]) (Le_s (Le_n (Le_n (Le_n (Le_n (Le_0)))))) (X_m_waters_25 hd _ _ _ hF) (Nat.le_refl _) (by omega)
    · rw [if_neg hc] at hF
      refine Ex_go 4 (pc' := if (lg_cmp x1 x3) ≤ 0 then 37 else 25) (L' := [some (.ref 1000), some (.long x1), none, some (.long x3), none]) (st' := []) (σ' := (S, (si M 1001 (0 : Int32)), O)) (rfl) ?_
      refine Ex_brI lc_le (fun hc => ?_) (fun hc => ?_)
      · rw [if_pos hc] at hF
        refine Ex_go 1 (pc' := 38) (L' := [some (.ref 1000), some (.long x1), none, some (.long x3), none]) (st' := [.ref 1000]) (σ' := (S, (si M 1001 (0 : Int32)), O)) (rfl) ?_
        obtain ⟨r5, M7, hx6, hF⟩ := b2_i hF
        refine Ex_call (kind := 2) (y := 103) (as := [.ref 1000]) (rest := []) (L0 := [some (.ref 1000), none]) (d' := 2) (v := none) (σ1 := (S, M7, O)) rfl rfl mt_103 rfl rfl (by omega) (X_m_keep (Nat.le_refl _) _ _ _ hx6) (Ex_st (st2 := []) rfl ?_)
        refine Ex_go 7 (pc' := 52) (L' := [some (.ref 1000), some (.long x1), none, some (.long x3), none]) (st' := [.int (1 : Int32)]) (σ' := (S, (sl (sl M7 1013 x1) 1014 x3), O)) (rfl) ?_
        cases hF
        exact Ex_fin rfl
      · rw [if_neg hc] at hF
        exact Ex_mono (L := [some (.ref 1000), none, none, none, none]) (Le_s (Le_n (Le_n (Le_n (Le_n (Le_0)))))) (X_m_waters_25 hd _ _ _ hF) (Nat.le_refl _) (by omega)
def F_w_pond_15 (S : Sto) : Option (Int32 ⊕ Nat) := some (.inr 1)
set_option maxRecDepth 100000 in
theorem X_w_pond_15 {nL : Nat} {xs : Nat → Int32} {M : Sto} {O : Sto} {d : Nat} (hd : 8 ≤ d) : ∀ (S : Sto) (r : Int32 ⊕ Nat), F_w_pond_15 S = some r → EX nL xs 1 MI_95 d 15 [none, none] [] (S, M, O) (rsI r) (S, M, O) := by
  intro S r hF
  unfold F_w_pond_15 at hF
  cases hF
  exact Ex_thr rfl (by omega) (Nat.le_refl _)
def F_w_pond (x1 : Int32) (S : Sto) : Option (Int32 ⊕ Nat) := if x1 < 0 then F_w_pond_15 S else if x1 < (gi S 23) then b1 (F_w_bit (gl S 29) x1) (fun r1 => if r1 = (1 : Int32) then some (.inl (1 : Int32)) else some (.inl (0 : Int32))) else F_w_pond_15 S
set_option maxRecDepth 100000 in
theorem X_w_pond {nL : Nat} {xs : Nat → Int32} {M : Sto} {O : Sto} {d : Nat} (hd : 8 ≤ d) : ∀ (x1 : Int32) (S : Sto) (r : Int32 ⊕ Nat), F_w_pond x1 S = some r → EX nL xs 1 MI_95 d 0 [some (.ref 0), some (.int x1)] [] (S, M, O) (rsI r) (S, M, O) := by
  intro x1 S r hF
  unfold F_w_pond at hF
  refine Ex_go 2 (pc' := if x1 < 0 then 15 else 4) (L' := [some (.ref 0), some (.int x1)]) (st' := []) (σ' := (S, M, O)) (rfl) ?_
  refine Ex_br (fun hc => ?_) (fun hc => ?_)
  · rw [if_pos hc] at hF
    exact Ex_mono (L := [none, none]) (Le_n (Le_n (Le_0))) (X_w_pond_15 hd _ _ hF) (Nat.le_refl _) (by omega)
  · rw [if_neg hc] at hF
    refine Ex_go 5 (pc' := if x1 < (gi S 23) then 23 else 15) (L' := [some (.ref 0), some (.int x1)]) (st' := []) (σ' := (S, M, O)) (rfl) ?_
    refine Ex_br (fun hc => ?_) (fun hc => ?_)
    · rw [if_pos hc] at hF
      refine Ex_go 4 (pc' := 31) (L' := [some (.ref 0), some (.int x1)]) (st' := [.int x1, .long (gl S 29)]) (σ' := (S, M, O)) (rfl) ?_
      obtain ⟨r1, hx2, hF⟩ := b1_i hF
      refine Ex_callK (K1 := 0) (K2 := 1) (kind := 0) (y := 15) (as := [.long (gl S 29), .int x1]) (rest := []) (L0 := [some (.long (gl S 29)), none, some (.int x1)]) (d' := 1) (v := some (.int r1)) (σ1 := (S, M, O)) rfl rfl mt_15 rfl rfl (by omega) (X_w_bit (Nat.le_refl _) _ _ _ hx2) (Ex_st (st2 := [.int r1]) rfl ?_) (by omega)
      refine Ex_go 2 (pc' := if ¬ r1 = (1 : Int32) then 42 else 38) (L' := [some (.ref 0), some (.int x1)]) (st' := []) (σ' := (S, M, O)) (rfl) ?_
      refine Ex_brN (fun hc => ?_) (fun hc => ?_)
      · rw [if_pos hc] at hF
        refine Ex_go 2 (pc' := 43) (L' := [some (.ref 0), some (.int x1)]) (st' := [.int (1 : Int32)]) (σ' := (S, M, O)) (rfl) ?_
        cases hF
        exact Ex_fin rfl
      · rw [if_neg hc] at hF
        refine Ex_go 1 (pc' := 43) (L' := [some (.ref 0), some (.int x1)]) (st' := [.int (0 : Int32)]) (σ' := (S, M, O)) (rfl) ?_
        cases hF
        exact Ex_fin rfl
    · rw [if_neg hc] at hF
      exact Ex_mono (L := [none, none]) (Le_n (Le_n (Le_0))) (X_w_pond_15 hd _ _ hF) (Nat.le_refl _) (by omega)
def F_l_pond_15 (s1 : Int32) (s2 : Int64) (S : Sto) (O : Sto) : Option (Int32 × Sto) := ck (ib s1 1) (some ((0 : Int32), (ul O 2000 (vp_updL (al O 2000) (Int32.toNatClampNeg s1) s2))))
set_option maxRecDepth 100000 in
theorem X_l_pond_15 {nL : Nat} {xs : Nat → Int32} {M : Sto} {d : Nat} (hd : 9 ≤ d) : ∀ (s1 : Int32) (s2 : Int64) (S : Sto) (O : Sto) (r : Int32) (O' : Sto), F_l_pond_15 s1 s2 S O = some (r, O') → EX nL xs 0 MI_96 d 15 [none, none, none, none] [.long s2, .int s1, .ref 2000] (S, M, O) (.inl (some (.int r))) (S, M, O') := by
  intro s1 s2 S O r O' hF
  unfold F_l_pond_15 at hF
  obtain ⟨hc1, hF⟩ := ck_i hF
  refine Ex_chk (b := ib s1 1) (pc' := 16) (L' := [none, none, none, none]) (st' := []) (σ' := (S, M, (ul O 2000 (vp_updL (al O 2000) (Int32.toNatClampNeg s1) s2)))) rfl hc1 ?_
  refine Ex_go 2 (pc' := 23) (L' := [none, none, none, none]) (st' := [.int (0 : Int32)]) (σ' := (S, M, (ul O 2000 (vp_updL (al O 2000) (Int32.toNatClampNeg s1) s2)))) (rfl) ?_
  cases hF
  exact Ex_fin rfl
def F_l_pond (x1 : Int32) (S : Sto) (O : Sto) : Option (Int32 × Sto) := b1 (F_w_pond x1 S) (fun r1 => su r1 (fun v3 => if v3 = 0 then F_l_pond_15 (0 : Int32) (0 : Int64) S O else F_l_pond_15 (0 : Int32) (1 : Int64) S O) (fun z4 => if z4 = 1 then some ((1 : Int32), O) else (none)))
set_option maxRecDepth 100000 in
theorem X_l_pond {nL : Nat} {xs : Nat → Int32} {M : Sto} {d : Nat} (hd : 9 ≤ d) : ∀ (x1 : Int32) (S : Sto) (O : Sto) (r : Int32) (O' : Sto), F_l_pond x1 S O = some (r, O') → EX nL xs 1 MI_96 d 0 [some (.ref 0), some (.int x1), some (.ref 2000), none] [] (S, M, O) (.inl (some (.int r))) (S, M, O') := by
  intro x1 S O r O' hF
  unfold F_l_pond at hF
  refine Ex_go 4 (pc' := 4) (L' := [some (.ref 0), some (.int x1), some (.ref 2000), none]) (st' := [.int x1, .ref 0, .int (0 : Int32), .ref 2000]) (σ' := (S, M, O)) (rfl) ?_
  obtain ⟨r1, hx2, hF⟩ := b1_i hF
  cases r1 with
  | inl v3 =>
    rw [su_l] at hF
    refine Ex_callK (K1 := 1) (K2 := 0) (kind := 3) (y := 95) (as := [.ref 0, .int x1]) (rest := [.int (0 : Int32), .ref 2000]) (L0 := [some (.ref 0), some (.int x1)]) (d' := 8) (v := some (.int v3)) (σ1 := (S, M, O)) rfl rfl mt_95 rfl rfl (by omega) (X_w_pond (Nat.le_refl _) _ _ _ hx2) (Ex_st (st2 := [.int v3, .int (0 : Int32), .ref 2000]) rfl ?_) (by omega)
    refine Ex_go 1 (pc' := if v3 = 0 then 14 else 10) (L' := [some (.ref 0), some (.int x1), some (.ref 2000), none]) (st' := [.int (0 : Int32), .ref 2000]) (σ' := (S, M, O)) (rfl) ?_
    refine Ex_br (fun hc => ?_) (fun hc => ?_)
    · rw [if_pos hc] at hF
      refine Ex_go 1 (pc' := 15) (L' := [some (.ref 0), some (.int x1), some (.ref 2000), none]) (st' := [.long (0 : Int64), .int (0 : Int32), .ref 2000]) (σ' := (S, M, O)) (rfl) ?_
      exact Ex_mono (L := [none, none, none, none]) (Le_n (Le_n (Le_n (Le_n (Le_0))))) (X_l_pond_15 hd _ _ _ _ _ _ hF) (Nat.le_refl _) (by omega)
    · rw [if_neg hc] at hF
      refine Ex_go 2 (pc' := 15) (L' := [some (.ref 0), some (.int x1), some (.ref 2000), none]) (st' := [.long (1 : Int64), .int (0 : Int32), .ref 2000]) (σ' := (S, M, O)) (rfl) ?_
      exact Ex_mono (L := [none, none, none, none]) (Le_n (Le_n (Le_n (Le_n (Le_0))))) (X_l_pond_15 hd _ _ _ _ _ _ hF) (Nat.le_refl _) (by omega)
  | inr z4 =>
    by_cases hz1 : z4 = 1
    · have hF : (if z4 = 1 then _ else _) = _ := hF
      rw [if_pos hz1] at hF
      subst hz1
      refine Ex_callX (K1 := 1) (K2 := 0) (y := 95) (as := [.ref 0, .int x1]) (rest := [.int (0 : Int32), .ref 2000]) (L0 := [some (.ref 0), some (.int x1)]) (d' := 8) (σ1 := (S, M, O)) (x := 1) (pc' := 20) (i := 3) rfl rfl mt_95 rfl rfl (by omega) (X_w_pond (Nat.le_refl _) _ _ _ hx2) rfl (Ex_L (L2 := [some (.ref 0), some (.int x1), some (.ref 2000), none]) rfl ?_) (by omega)
      refine Ex_go 1 (pc' := 21) (L' := [some (.ref 0), some (.int x1), some (.ref 2000), none]) (st' := [.int (1 : Int32)]) (σ' := (S, M, O)) (rfl) ?_
      cases hF
      exact Ex_fin rfl
    have hF : (if z4 = 1 then _ else _) = _ := hF
    rw [if_neg hz1] at hF
    cases hF
def F_m_pond (x1 : Int32) (M : Sto) : Option (Int32 × Sto) := b1 (F_m_isIn (Int32.toInt64 x1) (0 : Int64) (Int32.toInt64 ((ai (si M 1001 (0 : Int32)) 1003 (Int32.toNatClampNeg (1 : Int32))) - (1 : Int32)))) (fun r1 => if r1 = 0 then some ((0 : Int32), (si (si M 1001 (0 : Int32)) 1001 (1 : Int32))) else if (((gl (si M 1001 (0 : Int32)) 1015) >>> (Int32.toInt64 x1 &&& 63)) &&& (1 : Int64)) = (1 : Int64) then some ((1 : Int32), (si M 1001 (0 : Int32))) else some ((0 : Int32), (si M 1001 (0 : Int32))))
set_option maxRecDepth 100000 in
theorem X_m_pond {nL : Nat} {xs : Nat → Int32} {S : Sto} {O : Sto} {d : Nat} (hd : 2 ≤ d) : ∀ (x1 : Int32) (M : Sto) (r : Int32) (M' : Sto), F_m_pond x1 M = some (r, M') → EX nL xs 0 MI_97 d 0 [some (.ref 1000), some (.int x1)] [] (S, M, O) (.inl (some (.int r))) (S, M', O) := by
  intro x1 M r M' hF
  unfold F_m_pond at hF
  refine Ex_go 9 (pc' := 13) (L' := [some (.ref 1000), some (.int x1)]) (st' := [.int (1 : Int32), .ref 1003, .long (0 : Int64), .long (Int32.toInt64 x1)]) (σ' := (S, (si M 1001 (0 : Int32)), O)) (rfl) ?_
  refine Ex_chk (b := ib (1 : Int32) 6) (pc' := 14) (L' := [some (.ref 1000), some (.int x1)]) (st' := [.int (ai (si M 1001 (0 : Int32)) 1003 (Int32.toNatClampNeg (1 : Int32))), .long (0 : Int64), .long (Int32.toInt64 x1)]) (σ' := (S, (si M 1001 (0 : Int32)), O)) rfl (by decide) ?_
  refine Ex_go 3 (pc' := 17) (L' := [some (.ref 1000), some (.int x1)]) (st' := [.long (Int32.toInt64 ((ai (si M 1001 (0 : Int32)) 1003 (Int32.toNatClampNeg (1 : Int32))) - (1 : Int32))), .long (0 : Int64), .long (Int32.toInt64 x1)]) (σ' := (S, (si M 1001 (0 : Int32)), O)) (rfl) ?_
  obtain ⟨r1, hx2, hF⟩ := b1_i hF
  refine Ex_call (kind := 0) (y := 91) (as := [.long (Int32.toInt64 x1), .long (0 : Int64), .long (Int32.toInt64 ((ai (si M 1001 (0 : Int32)) 1003 (Int32.toNatClampNeg (1 : Int32))) - (1 : Int32)))]) (rest := []) (L0 := [some (.long (Int32.toInt64 x1)), none, some (.long (0 : Int64)), none, some (.long (Int32.toInt64 ((ai (si M 1001 (0 : Int32)) 1003 (Int32.toNatClampNeg (1 : Int32))) - (1 : Int32)))), none]) (d' := 1) (v := some (.int r1)) (σ1 := (S, (si M 1001 (0 : Int32)), O)) rfl rfl mt_91 rfl rfl (by omega) (X_m_isIn (Nat.le_refl _) _ _ _ _ hx2) (Ex_st (st2 := [.int r1]) rfl ?_)
  refine Ex_go 1 (pc' := if ¬ r1 = 0 then 30 else 23) (L' := [some (.ref 1000), some (.int x1)]) (st' := []) (σ' := (S, (si M 1001 (0 : Int32)), O)) (rfl) ?_
  refine Ex_brN (fun hc => ?_) (fun hc => ?_)
  · rw [if_pos hc] at hF
    refine Ex_go 4 (pc' := 29) (L' := [some (.ref 1000), some (.int x1)]) (st' := [.int (0 : Int32)]) (σ' := (S, (si (si M 1001 (0 : Int32)) 1001 (1 : Int32)), O)) (rfl) ?_
    cases hF
    exact Ex_fin rfl
  · rw [if_neg hc] at hF
    refine Ex_go 9 (pc' := if ¬ (lg_cmp (((gl (si M 1001 (0 : Int32)) 1015) >>> (Int32.toInt64 x1 &&& 63)) &&& (1 : Int64)) (1 : Int64)) = 0 then 47 else 43) (L' := [some (.ref 1000), some (.int x1)]) (st' := []) (σ' := (S, (si M 1001 (0 : Int32)), O)) (rfl) ?_
    refine Ex_brNI lc_ne (fun hc => ?_) (fun hc => ?_)
    · rw [if_pos hc] at hF
      refine Ex_go 2 (pc' := 48) (L' := [some (.ref 1000), some (.int x1)]) (st' := [.int (1 : Int32)]) (σ' := (S, (si M 1001 (0 : Int32)), O)) (rfl) ?_
      cases hF
      exact Ex_fin rfl
    · rw [if_neg hc] at hF
      refine Ex_go 1 (pc' := 48) (L' := [some (.ref 1000), some (.int x1)]) (st' := [.int (0 : Int32)]) (σ' := (S, (si M 1001 (0 : Int32)), O)) (rfl) ?_
      cases hF
      exact Ex_fin rfl
def F_Se_told (x1 : Int32) (x2 : Int32) (S : Sto) : Option Int64 := b1 (F_Se_has x1 S) (fun r1 => if r1 = 0 then some (-1 : Int64) else if x2 = 0 then ck (ib x1 8) (some (Int32.toInt64 (ai S 13 (Int32.toNatClampNeg x1)))) else (if x2 = 1 then ck (ib x1 8) (some (al S 14 (Int32.toNatClampNeg x1))) else (if x2 = 2 then ck (ib x1 8) (some (al S 15 (Int32.toNatClampNeg x1))) else (if x2 = 3 then ck (ib x1 8) (some (al S 16 (Int32.toNatClampNeg x1))) else (ck (ib x1 8) (some (al S 17 (Int32.toNatClampNeg x1))))))))
set_option maxRecDepth 100000 in
theorem X_Se_told {nL : Nat} {xs : Nat → Int32} {M : Sto} {O : Sto} {d : Nat} (hd : 2 ≤ d) : ∀ (x1 : Int32) (x2 : Int32) (S : Sto) (r : Int64), F_Se_told x1 x2 S = some r → EX nL xs 0 MI_88 d 0 [some (.ref 12), some (.int x1), some (.int x2)] [] (S, M, O) (.inl (some (.long r))) (S, M, O) := by
  intro x1 x2 S r hF
  unfold F_Se_told at hF
  refine Ex_go 2 (pc' := 2) (L' := [some (.ref 12), some (.int x1), some (.int x2)]) (st' := [.int x1, .ref 12]) (σ' := (S, M, O)) (rfl) ?_
  obtain ⟨r1, hx2, hF⟩ := b1_i hF
  refine Ex_call (kind := 2) (y := 87) (as := [.ref 12, .int x1]) (rest := []) (L0 := [some (.ref 12), some (.int x1)]) (d' := 1) (v := some (.int r1)) (σ1 := (S, M, O)) rfl rfl mt_87 rfl rfl (by omega) (X_Se_has (Nat.le_refl _) _ _ _ hx2) (Ex_st (st2 := [.int r1]) rfl ?_)
  refine Ex_go 1 (pc' := if ¬ r1 = 0 then 12 else 8) (L' := [some (.ref 12), some (.int x1), some (.int x2)]) (st' := []) (σ' := (S, M, O)) (rfl) ?_
  refine Ex_brN (fun hc => ?_) (fun hc => ?_)
  · rw [if_pos hc] at hF
    refine Ex_go 1 (pc' := 11) (L' := [some (.ref 12), some (.int x1), some (.int x2)]) (st' := [.long (-1 : Int64)]) (σ' := (S, M, O)) (rfl) ?_
    cases hF
    exact Ex_fin rfl
  · rw [if_neg hc] at hF
    refine Ex_go 2 (pc' := swp x2 [(0, 44), (1, 52), (2, 59), (3, 66)] 73) (L' := [some (.ref 12), some (.int x1), some (.int x2)]) (st' := []) (σ' := (S, M, O)) (rfl) ?_
    refine Ex_br (c := x2 = 0) (fun hc => ?_) (fun hc => ?_)
    · rw [if_pos hc] at hF
      refine Ex_go 3 (pc' := 49) (L' := [some (.ref 12), some (.int x1), some (.int x2)]) (st' := [.int x1, .ref 13]) (σ' := (S, M, O)) (rfl) ?_
      obtain ⟨hc3, hF⟩ := ck_i hF
      refine Ex_chk (b := ib x1 8) (pc' := 50) (L' := [some (.ref 12), some (.int x1), some (.int x2)]) (st' := [.int (ai S 13 (Int32.toNatClampNeg x1))]) (σ' := (S, M, O)) rfl hc3 ?_
      refine Ex_go 1 (pc' := 51) (L' := [some (.ref 12), some (.int x1), some (.int x2)]) (st' := [.long (Int32.toInt64 (ai S 13 (Int32.toNatClampNeg x1)))]) (σ' := (S, M, O)) (rfl) ?_
      cases hF
      exact Ex_fin rfl
    rw [if_neg hc] at hF
    refine Ex_br (c := x2 = 1) (fun hc => ?_) (fun hc => ?_)
    · rw [if_pos hc] at hF
      refine Ex_go 3 (pc' := 57) (L' := [some (.ref 12), some (.int x1), some (.int x2)]) (st' := [.int x1, .ref 14]) (σ' := (S, M, O)) (rfl) ?_
      obtain ⟨hc4, hF⟩ := ck_i hF
      refine Ex_chk (b := ib x1 8) (pc' := 58) (L' := [some (.ref 12), some (.int x1), some (.int x2)]) (st' := [.long (al S 14 (Int32.toNatClampNeg x1))]) (σ' := (S, M, O)) rfl hc4 ?_
      cases hF
      exact Ex_fin rfl
    rw [if_neg hc] at hF
    refine Ex_br (c := x2 = 2) (fun hc => ?_) (fun hc => ?_)
    · rw [if_pos hc] at hF
      refine Ex_go 3 (pc' := 64) (L' := [some (.ref 12), some (.int x1), some (.int x2)]) (st' := [.int x1, .ref 15]) (σ' := (S, M, O)) (rfl) ?_
      obtain ⟨hc5, hF⟩ := ck_i hF
      refine Ex_chk (b := ib x1 8) (pc' := 65) (L' := [some (.ref 12), some (.int x1), some (.int x2)]) (st' := [.long (al S 15 (Int32.toNatClampNeg x1))]) (σ' := (S, M, O)) rfl hc5 ?_
      cases hF
      exact Ex_fin rfl
    rw [if_neg hc] at hF
    refine Ex_br (c := x2 = 3) (fun hc => ?_) (fun hc => ?_)
    · rw [if_pos hc] at hF
      refine Ex_go 3 (pc' := 71) (L' := [some (.ref 12), some (.int x1), some (.int x2)]) (st' := [.int x1, .ref 16]) (σ' := (S, M, O)) (rfl) ?_
      obtain ⟨hc6, hF⟩ := ck_i hF
      refine Ex_chk (b := ib x1 8) (pc' := 72) (L' := [some (.ref 12), some (.int x1), some (.int x2)]) (st' := [.long (al S 16 (Int32.toNatClampNeg x1))]) (σ' := (S, M, O)) rfl hc6 ?_
      cases hF
      exact Ex_fin rfl
    rw [if_neg hc] at hF
    refine Ex_go 3 (pc' := 78) (L' := [some (.ref 12), some (.int x1), some (.int x2)]) (st' := [.int x1, .ref 17]) (σ' := (S, M, O)) (rfl) ?_
    obtain ⟨hc7, hF⟩ := ck_i hF
    refine Ex_chk (b := ib x1 8) (pc' := 79) (L' := [some (.ref 12), some (.int x1), some (.int x2)]) (st' := [.long (al S 17 (Int32.toNatClampNeg x1))]) (σ' := (S, M, O)) rfl hc7 ?_
    cases hF
    exact Ex_fin rfl
def F_w_net_20 (S : Sto) : Option (Int64 ⊕ Nat) := some (.inr 1)
set_option maxRecDepth 100000 in
theorem X_w_net_20 {nL : Nat} {xs : Nat → Int32} {M : Sto} {O : Sto} {d : Nat} (hd : 8 ≤ d) : ∀ (S : Sto) (r : Int64 ⊕ Nat), F_w_net_20 S = some r → EX nL xs 1 MI_89 d 20 [none, none, none] [] (S, M, O) (rsJ r) (S, M, O) := by
  intro S r hF
  unfold F_w_net_20 at hF
  cases hF
  exact Ex_thr rfl (by omega) (Nat.le_refl _)
def F_w_net (x1 : Int32) (x2 : Int32) (S : Sto) : Option (Int64 ⊕ Nat) := b1 (F_Se_has x1 S) (fun r1 => if r1 = 0 then F_w_net_20 S else if x2 < 0 then F_w_net_20 S else if x2 ≤ (4 : Int32) then b1 (F_Se_told x1 x2 S) (fun r3 => some (.inl r3)) else F_w_net_20 S)
set_option maxRecDepth 100000 in
theorem X_w_net {nL : Nat} {xs : Nat → Int32} {M : Sto} {O : Sto} {d : Nat} (hd : 8 ≤ d) : ∀ (x1 : Int32) (x2 : Int32) (S : Sto) (r : Int64 ⊕ Nat), F_w_net x1 x2 S = some r → EX nL xs 1 MI_89 d 0 [some (.ref 0), some (.int x1), some (.int x2)] [] (S, M, O) (rsJ r) (S, M, O) := by
  intro x1 x2 S r hF
  unfold F_w_net at hF
  refine Ex_go 3 (pc' := 5) (L' := [some (.ref 0), some (.int x1), some (.int x2)]) (st' := [.int x1, .ref 12]) (σ' := (S, M, O)) (rfl) ?_
  obtain ⟨r1, hx2, hF⟩ := b1_i hF
  refine Ex_callK (K1 := 0) (K2 := 1) (kind := 2) (y := 87) (as := [.ref 12, .int x1]) (rest := []) (L0 := [some (.ref 12), some (.int x1)]) (d' := 1) (v := some (.int r1)) (σ1 := (S, M, O)) rfl rfl mt_87 rfl rfl (by omega) (X_Se_has (Nat.le_refl _) _ _ _ hx2) (Ex_st (st2 := [.int r1]) rfl ?_) (by omega)
  refine Ex_go 1 (pc' := if r1 = 0 then 20 else 11) (L' := [some (.ref 0), some (.int x1), some (.int x2)]) (st' := []) (σ' := (S, M, O)) (rfl) ?_
  refine Ex_br (fun hc => ?_) (fun hc => ?_)
  · rw [if_pos hc] at hF
    exact Ex_mono (L := [none, none, none]) (Le_n (Le_n (Le_n (Le_0)))) (X_w_net_20 hd _ _ hF) (Nat.le_refl _) (by omega)
  · rw [if_neg hc] at hF
    refine Ex_go 2 (pc' := if x2 < 0 then 20 else 15) (L' := [some (.ref 0), some (.int x1), some (.int x2)]) (st' := []) (σ' := (S, M, O)) (rfl) ?_
    refine Ex_br (fun hc => ?_) (fun hc => ?_)
    · rw [if_pos hc] at hF
      exact Ex_mono (L := [none, none, none]) (Le_n (Le_n (Le_n (Le_0)))) (X_w_net_20 hd _ _ hF) (Nat.le_refl _) (by omega)
    · rw [if_neg hc] at hF
      refine Ex_go 3 (pc' := if x2 ≤ (4 : Int32) then 28 else 20) (L' := [some (.ref 0), some (.int x1), some (.int x2)]) (st' := []) (σ' := (S, M, O)) (rfl) ?_
      refine Ex_br (fun hc => ?_) (fun hc => ?_)
      · rw [if_pos hc] at hF
        refine Ex_go 4 (pc' := 34) (L' := [some (.ref 0), some (.int x1), some (.int x2)]) (st' := [.int x2, .int x1, .ref 12]) (σ' := (S, M, O)) (rfl) ?_
        obtain ⟨r3, hx4, hF⟩ := b1_i hF
        refine Ex_callK (K1 := 0) (K2 := 1) (kind := 2) (y := 88) (as := [.ref 12, .int x1, .int x2]) (rest := []) (L0 := [some (.ref 12), some (.int x1), some (.int x2)]) (d' := 2) (v := some (.long r3)) (σ1 := (S, M, O)) rfl rfl mt_88 rfl rfl (by omega) (X_Se_told (Nat.le_refl _) _ _ _ _ hx4) (Ex_st (st2 := [.long r3]) rfl ?_) (by omega)
        cases hF
        exact Ex_fin rfl
      · rw [if_neg hc] at hF
        exact Ex_mono (L := [none, none, none]) (Le_n (Le_n (Le_n (Le_0)))) (X_w_net_20 hd _ _ hF) (Nat.le_refl _) (by omega)
def F_l_net (x1 : Int32) (x2 : Int32) (S : Sto) (O : Sto) : Option (Int32 × Sto) := b1 (F_w_net x1 x2 S) (fun r1 => su r1 (fun v3 => some ((0 : Int32), (ul O 2000 (vp_updL (al O 2000) (Int32.toNatClampNeg (0 : Int32)) v3)))) (fun z4 => if z4 = 1 then some ((1 : Int32), O) else (none)))
set_option maxRecDepth 100000 in
theorem X_l_net {nL : Nat} {xs : Nat → Int32} {M : Sto} {d : Nat} (hd : 9 ≤ d) : ∀ (x1 : Int32) (x2 : Int32) (S : Sto) (O : Sto) (r : Int32) (O' : Sto), F_l_net x1 x2 S O = some (r, O') → EX nL xs 1 MI_90 d 0 [some (.ref 0), some (.int x1), some (.int x2), some (.ref 2000), none] [] (S, M, O) (.inl (some (.int r))) (S, M, O') := by
  intro x1 x2 S O r O' hF
  unfold F_l_net at hF
  refine Ex_go 5 (pc' := 5) (L' := [some (.ref 0), some (.int x1), some (.int x2), some (.ref 2000), none]) (st' := [.int x2, .int x1, .ref 0, .int (0 : Int32), .ref 2000]) (σ' := (S, M, O)) (rfl) ?_
  obtain ⟨r1, hx2, hF⟩ := b1_i hF
  cases r1 with
  | inl v3 =>
    rw [su_l] at hF
    refine Ex_callK (K1 := 1) (K2 := 0) (kind := 3) (y := 89) (as := [.ref 0, .int x1, .int x2]) (rest := [.int (0 : Int32), .ref 2000]) (L0 := [some (.ref 0), some (.int x1), some (.int x2)]) (d' := 8) (v := some (.long v3)) (σ1 := (S, M, O)) rfl rfl mt_89 rfl rfl (by omega) (X_w_net (Nat.le_refl _) _ _ _ _ hx2) (Ex_st (st2 := [.long v3, .int (0 : Int32), .ref 2000]) rfl ?_) (by omega)
    refine Ex_chk (b := ib (0 : Int32) 1) (pc' := 9) (L' := [some (.ref 0), some (.int x1), some (.int x2), some (.ref 2000), none]) (st' := []) (σ' := (S, M, (ul O 2000 (vp_updL (al O 2000) (Int32.toNatClampNeg (0 : Int32)) v3)))) rfl (by decide) ?_
    refine Ex_go 2 (pc' := 17) (L' := [some (.ref 0), some (.int x1), some (.int x2), some (.ref 2000), none]) (st' := [.int (0 : Int32)]) (σ' := (S, M, (ul O 2000 (vp_updL (al O 2000) (Int32.toNatClampNeg (0 : Int32)) v3)))) (rfl) ?_
    cases hF
    exact Ex_fin rfl
  | inr z4 =>
    by_cases hz1 : z4 = 1
    · have hF : (if z4 = 1 then _ else _) = _ := hF
      rw [if_pos hz1] at hF
      subst hz1
      refine Ex_callX (K1 := 1) (K2 := 0) (y := 89) (as := [.ref 0, .int x1, .int x2]) (rest := [.int (0 : Int32), .ref 2000]) (L0 := [some (.ref 0), some (.int x1), some (.int x2)]) (d' := 8) (σ1 := (S, M, O)) (x := 1) (pc' := 14) (i := 4) rfl rfl mt_89 rfl rfl (by omega) (X_w_net (Nat.le_refl _) _ _ _ _ hx2) rfl (Ex_L (L2 := [some (.ref 0), some (.int x1), some (.int x2), some (.ref 2000), none]) rfl ?_) (by omega)
      refine Ex_go 1 (pc' := 15) (L' := [some (.ref 0), some (.int x1), some (.int x2), some (.ref 2000), none]) (st' := [.int (1 : Int32)]) (σ' := (S, M, O)) (rfl) ?_
      cases hF
      exact Ex_fin rfl
    have hF : (if z4 = 1 then _ else _) = _ := hF
    rw [if_neg hz1] at hF
    cases hF
def F_m_net (x1 : Int32) (x2 : Int32) (M : Sto) : Option (Int64 × Sto) := b1 (F_m_isIn (Int32.toInt64 x1) (0 : Int64) (Int32.toInt64 ((ai (si M 1001 (0 : Int32)) 1003 (Int32.toNatClampNeg (0 : Int32))) - (1 : Int32)))) (fun r1 => if r1 = 0 then b2 (F_m_fail (1 : Int32) (si M 1001 (0 : Int32))) (fun r13 M15 => some ((Int32.toInt64 r13), M15)) else if x2 = 0 then ck (ib x1 16) (some ((Int32.toInt64 (ai (si M 1001 (0 : Int32)) 1004 (Int32.toNatClampNeg x1))), (si M 1001 (0 : Int32)))) else (if x2 = 1 then ck (ib x1 16) (some ((al (si M 1001 (0 : Int32)) 1009 (Int32.toNatClampNeg x1)), (si M 1001 (0 : Int32)))) else (if x2 = 2 then ck (ib x1 16) (some ((al (si M 1001 (0 : Int32)) 1010 (Int32.toNatClampNeg x1)), (si M 1001 (0 : Int32)))) else (if x2 = 3 then b1 (F_m_fromOf x1 (si M 1001 (0 : Int32))) (fun r6 => some (r6, (si M 1001 (0 : Int32)))) else (if x2 = 4 then b1 (F_m_toOf x1 (si M 1001 (0 : Int32))) (fun r8 => some (r8, (si M 1001 (0 : Int32)))) else (b2 (F_m_fail (1 : Int32) (si M 1001 (0 : Int32))) (fun r10 M12 => some ((Int32.toInt64 r10), M12))))))))
set_option maxRecDepth 100000 in
theorem X_m_net {nL : Nat} {xs : Nat → Int32} {S : Sto} {O : Sto} {d : Nat} (hd : 2 ≤ d) : ∀ (x1 : Int32) (x2 : Int32) (M : Sto) (r : Int64) (M' : Sto), F_m_net x1 x2 M = some (r, M') → EX nL xs 0 MI_94 d 0 [some (.ref 1000), some (.int x1), some (.int x2)] [] (S, M, O) (.inl (some (.long r))) (S, M', O) := by
  intro x1 x2 M r M' hF
  unfold F_m_net at hF
  refine Ex_go 9 (pc' := 13) (L' := [some (.ref 1000), some (.int x1), some (.int x2)]) (st' := [.int (0 : Int32), .ref 1003, .long (0 : Int64), .long (Int32.toInt64 x1)]) (σ' := (S, (si M 1001 (0 : Int32)), O)) (rfl) ?_
  refine Ex_chk (b := ib (0 : Int32) 6) (pc' := 14) (L' := [some (.ref 1000), some (.int x1), some (.int x2)]) (st' := [.int (ai (si M 1001 (0 : Int32)) 1003 (Int32.toNatClampNeg (0 : Int32))), .long (0 : Int64), .long (Int32.toInt64 x1)]) (σ' := (S, (si M 1001 (0 : Int32)), O)) rfl (by decide) ?_
  refine Ex_go 3 (pc' := 17) (L' := [some (.ref 1000), some (.int x1), some (.int x2)]) (st' := [.long (Int32.toInt64 ((ai (si M 1001 (0 : Int32)) 1003 (Int32.toNatClampNeg (0 : Int32))) - (1 : Int32))), .long (0 : Int64), .long (Int32.toInt64 x1)]) (σ' := (S, (si M 1001 (0 : Int32)), O)) (rfl) ?_
  obtain ⟨r1, hx2, hF⟩ := b1_i hF
  refine Ex_call (kind := 0) (y := 91) (as := [.long (Int32.toInt64 x1), .long (0 : Int64), .long (Int32.toInt64 ((ai (si M 1001 (0 : Int32)) 1003 (Int32.toNatClampNeg (0 : Int32))) - (1 : Int32)))]) (rest := []) (L0 := [some (.long (Int32.toInt64 x1)), none, some (.long (0 : Int64)), none, some (.long (Int32.toInt64 ((ai (si M 1001 (0 : Int32)) 1003 (Int32.toNatClampNeg (0 : Int32))) - (1 : Int32)))), none]) (d' := 1) (v := some (.int r1)) (σ1 := (S, (si M 1001 (0 : Int32)), O)) rfl rfl mt_91 rfl rfl (by omega) (X_m_isIn (Nat.le_refl _) _ _ _ _ hx2) (Ex_st (st2 := [.int r1]) rfl ?_)
  refine Ex_go 1 (pc' := if ¬ r1 = 0 then 30 else 23) (L' := [some (.ref 1000), some (.int x1), some (.int x2)]) (st' := []) (σ' := (S, (si M 1001 (0 : Int32)), O)) (rfl) ?_
  refine Ex_brN (fun hc => ?_) (fun hc => ?_)
  · rw [if_pos hc] at hF
    refine Ex_go 2 (pc' := 25) (L' := [some (.ref 1000), some (.int x1), some (.int x2)]) (st' := [.int (1 : Int32), .ref 1000]) (σ' := (S, (si M 1001 (0 : Int32)), O)) (rfl) ?_
    obtain ⟨r13, M15, hx14, hF⟩ := b2_i hF
    refine Ex_call (kind := 2) (y := 50) (as := [.ref 1000, .int (1 : Int32)]) (rest := []) (L0 := [some (.ref 1000), some (.int (1 : Int32))]) (d' := 1) (v := some (.int r13)) (σ1 := (S, M15, O)) rfl rfl mt_50 rfl rfl (by omega) (X_m_fail (Nat.le_refl _) _ _ _ _ hx14) (Ex_st (st2 := [.int r13]) rfl ?_)
    refine Ex_go 1 (pc' := 29) (L' := [some (.ref 1000), some (.int x1), some (.int x2)]) (st' := [.long (Int32.toInt64 r13)]) (σ' := (S, M15, O)) (rfl) ?_
    cases hF
    exact Ex_fin rfl
  · rw [if_neg hc] at hF
    refine Ex_go 2 (pc' := swp x2 [(0, 64), (1, 72), (2, 79), (3, 86), (4, 92)] 98) (L' := [some (.ref 1000), some (.int x1), some (.int x2)]) (st' := []) (σ' := (S, (si M 1001 (0 : Int32)), O)) (rfl) ?_
    refine Ex_br (c := x2 = 0) (fun hc => ?_) (fun hc => ?_)
    · rw [if_pos hc] at hF
      refine Ex_go 3 (pc' := 69) (L' := [some (.ref 1000), some (.int x1), some (.int x2)]) (st' := [.int x1, .ref 1004]) (σ' := (S, (si M 1001 (0 : Int32)), O)) (rfl) ?_
      obtain ⟨hc3, hF⟩ := ck_i hF
      refine Ex_chk (b := ib x1 16) (pc' := 70) (L' := [some (.ref 1000), some (.int x1), some (.int x2)]) (st' := [.int (ai (si M 1001 (0 : Int32)) 1004 (Int32.toNatClampNeg x1))]) (σ' := (S, (si M 1001 (0 : Int32)), O)) rfl hc3 ?_
      refine Ex_go 1 (pc' := 71) (L' := [some (.ref 1000), some (.int x1), some (.int x2)]) (st' := [.long (Int32.toInt64 (ai (si M 1001 (0 : Int32)) 1004 (Int32.toNatClampNeg x1)))]) (σ' := (S, (si M 1001 (0 : Int32)), O)) (rfl) ?_
      cases hF
      exact Ex_fin rfl
    rw [if_neg hc] at hF
    refine Ex_br (c := x2 = 1) (fun hc => ?_) (fun hc => ?_)
    · rw [if_pos hc] at hF
      refine Ex_go 3 (pc' := 77) (L' := [some (.ref 1000), some (.int x1), some (.int x2)]) (st' := [.int x1, .ref 1009]) (σ' := (S, (si M 1001 (0 : Int32)), O)) (rfl) ?_
      obtain ⟨hc4, hF⟩ := ck_i hF
      refine Ex_chk (b := ib x1 16) (pc' := 78) (L' := [some (.ref 1000), some (.int x1), some (.int x2)]) (st' := [.long (al (si M 1001 (0 : Int32)) 1009 (Int32.toNatClampNeg x1))]) (σ' := (S, (si M 1001 (0 : Int32)), O)) rfl hc4 ?_
      cases hF
      exact Ex_fin rfl
    rw [if_neg hc] at hF
    refine Ex_br (c := x2 = 2) (fun hc => ?_) (fun hc => ?_)
    · rw [if_pos hc] at hF
      refine Ex_go 3 (pc' := 84) (L' := [some (.ref 1000), some (.int x1), some (.int x2)]) (st' := [.int x1, .ref 1010]) (σ' := (S, (si M 1001 (0 : Int32)), O)) (rfl) ?_
      obtain ⟨hc5, hF⟩ := ck_i hF
      refine Ex_chk (b := ib x1 16) (pc' := 85) (L' := [some (.ref 1000), some (.int x1), some (.int x2)]) (st' := [.long (al (si M 1001 (0 : Int32)) 1010 (Int32.toNatClampNeg x1))]) (σ' := (S, (si M 1001 (0 : Int32)), O)) rfl hc5 ?_
      cases hF
      exact Ex_fin rfl
    rw [if_neg hc] at hF
    refine Ex_br (c := x2 = 3) (fun hc => ?_) (fun hc => ?_)
    · rw [if_pos hc] at hF
      refine Ex_go 2 (pc' := 88) (L' := [some (.ref 1000), some (.int x1), some (.int x2)]) (st' := [.int x1, .ref 1000]) (σ' := (S, (si M 1001 (0 : Int32)), O)) (rfl) ?_
      obtain ⟨r6, hx7, hF⟩ := b1_i hF
      refine Ex_call (kind := 2) (y := 92) (as := [.ref 1000, .int x1]) (rest := []) (L0 := [some (.ref 1000), some (.int x1)]) (d' := 1) (v := some (.long r6)) (σ1 := (S, (si M 1001 (0 : Int32)), O)) rfl rfl mt_92 rfl rfl (by omega) (X_m_fromOf (Nat.le_refl _) _ _ _ hx7) (Ex_st (st2 := [.long r6]) rfl ?_)
      cases hF
      exact Ex_fin rfl
    rw [if_neg hc] at hF
    refine Ex_br (c := x2 = 4) (fun hc => ?_) (fun hc => ?_)
    · rw [if_pos hc] at hF
      refine Ex_go 2 (pc' := 94) (L' := [some (.ref 1000), some (.int x1), some (.int x2)]) (st' := [.int x1, .ref 1000]) (σ' := (S, (si M 1001 (0 : Int32)), O)) (rfl) ?_
      obtain ⟨r8, hx9, hF⟩ := b1_i hF
      refine Ex_call (kind := 2) (y := 93) (as := [.ref 1000, .int x1]) (rest := []) (L0 := [some (.ref 1000), some (.int x1)]) (d' := 1) (v := some (.long r8)) (σ1 := (S, (si M 1001 (0 : Int32)), O)) rfl rfl mt_93 rfl rfl (by omega) (X_m_toOf (Nat.le_refl _) _ _ _ hx9) (Ex_st (st2 := [.long r8]) rfl ?_)
      cases hF
      exact Ex_fin rfl
    rw [if_neg hc] at hF
    refine Ex_go 2 (pc' := 100) (L' := [some (.ref 1000), some (.int x1), some (.int x2)]) (st' := [.int (1 : Int32), .ref 1000]) (σ' := (S, (si M 1001 (0 : Int32)), O)) (rfl) ?_
    obtain ⟨r10, M12, hx11, hF⟩ := b2_i hF
    refine Ex_call (kind := 2) (y := 50) (as := [.ref 1000, .int (1 : Int32)]) (rest := []) (L0 := [some (.ref 1000), some (.int (1 : Int32))]) (d' := 1) (v := some (.int r10)) (σ1 := (S, M12, O)) rfl rfl mt_50 rfl rfl (by omega) (X_m_fail (Nat.le_refl _) _ _ _ _ hx11) (Ex_st (st2 := [.int r10]) rfl ?_)
    refine Ex_go 1 (pc' := 104) (L' := [some (.ref 1000), some (.int x1), some (.int x2)]) (st' := [.long (Int32.toInt64 r10)]) (σ' := (S, M12, O)) (rfl) ?_
    cases hF
    exact Ex_fin rfl
def F_Sc_refusals (x1 : Int32) (S : Sto) : Option Int32 := if x1 < 0 then some (0 : Int32) else if (3 : Int32) ≤ x1 then some (0 : Int32) else ck (ib x1 3) (some (ai S 34 (Int32.toNatClampNeg x1)))
set_option maxRecDepth 100000 in
theorem X_Sc_refusals {nL : Nat} {xs : Nat → Int32} {M : Sto} {O : Sto} {d : Nat} (hd : 1 ≤ d) : ∀ (x1 : Int32) (S : Sto) (r : Int32), F_Sc_refusals x1 S = some r → EX nL xs 0 MI_82 d 0 [some (.ref 27), some (.int x1)] [] (S, M, O) (.inl (some (.int r))) (S, M, O) := by
  intro x1 S r hF
  unfold F_Sc_refusals at hF
  refine Ex_go 2 (pc' := if x1 < 0 then 18 else 4) (L' := [some (.ref 27), some (.int x1)]) (st' := []) (σ' := (S, M, O)) (rfl) ?_
  refine Ex_br (fun hc => ?_) (fun hc => ?_)
  · rw [if_pos hc] at hF
    refine Ex_go 1 (pc' := 19) (L' := [some (.ref 27), some (.int x1)]) (st' := [.int (0 : Int32)]) (σ' := (S, M, O)) (rfl) ?_
    cases hF
    exact Ex_fin rfl
  · rw [if_neg hc] at hF
    refine Ex_go 3 (pc' := if (3 : Int32) ≤ x1 then 18 else 9) (L' := [some (.ref 27), some (.int x1)]) (st' := []) (σ' := (S, M, O)) (rfl) ?_
    refine Ex_br (fun hc => ?_) (fun hc => ?_)
    · rw [if_pos hc] at hF
      refine Ex_go 1 (pc' := 19) (L' := [some (.ref 27), some (.int x1)]) (st' := [.int (0 : Int32)]) (σ' := (S, M, O)) (rfl) ?_
      cases hF
      exact Ex_fin rfl
    · rw [if_neg hc] at hF
      refine Ex_go 3 (pc' := 14) (L' := [some (.ref 27), some (.int x1)]) (st' := [.int x1, .ref 34]) (σ' := (S, M, O)) (rfl) ?_
      obtain ⟨hc1, hF⟩ := ck_i hF
      refine Ex_chk (b := ib x1 3) (pc' := 15) (L' := [some (.ref 27), some (.int x1)]) (st' := [.int (ai S 34 (Int32.toNatClampNeg x1))]) (σ' := (S, M, O)) rfl hc1 ?_
      refine Ex_go 1 (pc' := 19) (L' := [some (.ref 27), some (.int x1)]) (st' := [.int (ai S 34 (Int32.toNatClampNeg x1))]) (σ' := (S, M, O)) (rfl) ?_
      cases hF
      exact Ex_fin rfl
def F_Sc_wishesThat_31 (k4 : Int32 → Int32 → Int32 → Sto → Option Int32) (x1 : Int32) (x2 : Int32) (x3 : Int32) (S : Sto) : Option Int32 := k4 x1 x2 (x3 + (1 : Int32)) S
set_option maxRecDepth 100000 in
theorem X_Sc_wishesThat_31 {nL : Nat} {xs : Nat → Int32} {M : Sto} {O : Sto} {d : Nat} (hd : 1 ≤ d) {k4 : Int32 → Int32 → Int32 → Sto → Option Int32} (hk4 : ∀ (x1 : Int32) (x2 : Int32) (x3 : Int32) (S : Sto) (r : Int32), k4 x1 x2 x3 S = some r → EX nL xs 0 MI_81 d 4 [some (.ref 27), some (.int x1), some (.int x2), some (.int x3)] [] (S, M, O) (.inl (some (.int r))) (S, M, O)) : ∀ (x1 : Int32) (x2 : Int32) (x3 : Int32) (S : Sto) (r : Int32), F_Sc_wishesThat_31 k4 x1 x2 x3 S = some r → EX nL xs 0 MI_81 d 31 [some (.ref 27), some (.int x1), some (.int x2), some (.int x3)] [] (S, M, O) (.inl (some (.int r))) (S, M, O) := by
  intro x1 x2 x3 S r hF
  unfold F_Sc_wishesThat_31 at hF
  refine Ex_go 2 (pc' := 4) (L' := [some (.ref 27), some (.int x1), some (.int x2), some (.int (x3 + (1 : Int32)))]) (st' := []) (σ' := (S, M, O)) (rfl) ?_
  exact Ex_mono (L := [some (.ref 27), some (.int x1), some (.int x2), some (.int (x3 + (1 : Int32)))]) (Le_s (Le_s (Le_s (Le_s (Le_0))))) (hk4 _ _ _ _ _ hF) (Nat.le_refl _) (by omega)
def F_Sc_wishesThat_4 : Nat → Int32 → Int32 → Int32 → Sto → Option Int32
  | 0, _, _, _, _ => none
  | n + 1, x1, x2, x3, S => if (gi S 32) ≤ x3 then some x2 else if (12 : Int32) ≤ x3 then some x2 else ck (ib x3 12) (if (ai S 32 (Int32.toNatClampNeg x3)) = x1 then F_Sc_wishesThat_31 (F_Sc_wishesThat_4 n) x1 (x2 + (1 : Int32)) x3 S else F_Sc_wishesThat_31 (F_Sc_wishesThat_4 n) x1 x2 x3 S)
set_option maxRecDepth 100000 in
theorem X_Sc_wishesThat_4 {nL : Nat} {xs : Nat → Int32} {M : Sto} {O : Sto} {d : Nat} (hd : 1 ≤ d) : ∀ n : Nat, ∀ (x1 : Int32) (x2 : Int32) (x3 : Int32) (S : Sto) (r : Int32), F_Sc_wishesThat_4 n x1 x2 x3 S = some r → EX nL xs 0 MI_81 d 4 [some (.ref 27), some (.int x1), some (.int x2), some (.int x3)] [] (S, M, O) (.inl (some (.int r))) (S, M, O) := by
  intro n
  induction n with
  | zero => intro x1 x2 x3 S r hF; cases hF
  | succ n ih =>
  intro x1 x2 x3 S r hF
  unfold F_Sc_wishesThat_4 at hF
  refine Ex_go 4 (pc' := if (gi S 32) ≤ x3 then 37 else 12) (L' := [some (.ref 27), some (.int x1), some (.int x2), some (.int x3)]) (st' := []) (σ' := (S, M, O)) (rfl) ?_
  refine Ex_br (fun hc => ?_) (fun hc => ?_)
  · rw [if_pos hc] at hF
    refine Ex_go 1 (pc' := 38) (L' := [some (.ref 27), some (.int x1), some (.int x2), some (.int x3)]) (st' := [.int x2]) (σ' := (S, M, O)) (rfl) ?_
    cases hF
    exact Ex_fin rfl
  · rw [if_neg hc] at hF
    refine Ex_go 3 (pc' := if (12 : Int32) ≤ x3 then 37 else 18) (L' := [some (.ref 27), some (.int x1), some (.int x2), some (.int x3)]) (st' := []) (σ' := (S, M, O)) (rfl) ?_
    refine Ex_br (fun hc => ?_) (fun hc => ?_)
    · rw [if_pos hc] at hF
      refine Ex_go 1 (pc' := 38) (L' := [some (.ref 27), some (.int x1), some (.int x2), some (.int x3)]) (st' := [.int x2]) (σ' := (S, M, O)) (rfl) ?_
      cases hF
      exact Ex_fin rfl
    · rw [if_neg hc] at hF
      refine Ex_go 3 (pc' := 23) (L' := [some (.ref 27), some (.int x1), some (.int x2), some (.int x3)]) (st' := [.int x3, .ref 32]) (σ' := (S, M, O)) (rfl) ?_
      obtain ⟨hc1, hF⟩ := ck_i hF
      refine Ex_chk (b := ib x3 12) (pc' := 24) (L' := [some (.ref 27), some (.int x1), some (.int x2), some (.int x3)]) (st' := [.int (ai S 32 (Int32.toNatClampNeg x3))]) (σ' := (S, M, O)) rfl hc1 ?_
      refine Ex_go 2 (pc' := if ¬ (ai S 32 (Int32.toNatClampNeg x3)) = x1 then 31 else 28) (L' := [some (.ref 27), some (.int x1), some (.int x2), some (.int x3)]) (st' := []) (σ' := (S, M, O)) (rfl) ?_
      refine Ex_brN (fun hc => ?_) (fun hc => ?_)
      · rw [if_pos hc] at hF
        refine Ex_go 1 (pc' := 31) (L' := [some (.ref 27), some (.int x1), some (.int (x2 + (1 : Int32))), some (.int x3)]) (st' := []) (σ' := (S, M, O)) (rfl) ?_
        exact Ex_mono (L := [some (.ref 27), some (.int x1), some (.int (x2 + (1 : Int32))), some (.int x3)]) (Le_s (Le_s (Le_s (Le_s (Le_0))))) (X_Sc_wishesThat_31 hd ih _ _ _ _ _ hF) (Nat.le_refl _) (by omega)
      · rw [if_neg hc] at hF
        exact Ex_mono (L := [some (.ref 27), some (.int x1), some (.int x2), some (.int x3)]) (Le_s (Le_s (Le_s (Le_s (Le_0))))) (X_Sc_wishesThat_31 hd ih _ _ _ _ _ hF) (Nat.le_refl _) (by omega)
def F_Sc_wishesThat (x1 : Int32) (S : Sto) : Option Int32 := F_Sc_wishesThat_4 FU x1 (0 : Int32) (0 : Int32) S
set_option maxRecDepth 100000 in
theorem X_Sc_wishesThat {nL : Nat} {xs : Nat → Int32} {M : Sto} {O : Sto} {d : Nat} (hd : 1 ≤ d) : ∀ (x1 : Int32) (S : Sto) (r : Int32), F_Sc_wishesThat x1 S = some r → EX nL xs 0 MI_81 d 0 [some (.ref 27), some (.int x1), none, none] [] (S, M, O) (.inl (some (.int r))) (S, M, O) := by
  intro x1 S r hF
  unfold F_Sc_wishesThat at hF
  refine Ex_go 4 (pc' := 4) (L' := [some (.ref 27), some (.int x1), some (.int (0 : Int32)), some (.int (0 : Int32))]) (st' := []) (σ' := (S, M, O)) (rfl) ?_
  exact Ex_mono (L := [some (.ref 27), some (.int x1), some (.int (0 : Int32)), some (.int (0 : Int32))]) (Le_s (Le_s (Le_s (Le_s (Le_0))))) (X_Sc_wishesThat_4 hd FU _ _ _ _ _ hF) (Nat.le_refl _) (by omega)
def F_w_count (x1 : Int32) (S : Sto) : Option (Int64 ⊕ Nat) := if x1 = 0 then some (.inl (gl S 26)) else (if x1 = 1 then some (.inl (gl S 27)) else (if x1 = 2 then some (.inl (Int32.toInt64 (gi S 22))) else (if x1 = 3 then some (.inl (Int32.toInt64 (gi S 28))) else (if x1 = 4 then some (.inl (Int32.toInt64 (gi S 23))) else (if x1 = 5 then b1 (F_j_bitCountJ (gl S 29)) (fun r1 => some (.inl (Int32.toInt64 r1))) else (if x1 = 6 then some (.inl (Int32.toInt64 (gi S 30))) else (if x1 = 7 then some (.inl (Int32.toInt64 (gi S 31))) else (if x1 = 8 then b1 (F_Sc_wishesThat (1 : Int32) S) (fun r3 => some (.inl (Int32.toInt64 r3))) else (if x1 = 9 then b1 (F_Sc_wishesThat (0 : Int32) S) (fun r5 => some (.inl (Int32.toInt64 r5))) else (if x1 = 10 then some (.inl (Int32.toInt64 (gi S 33))) else (if x1 = 11 then some (.inl (Int32.toInt64 (gi S 7))) else (if x1 = 12 then b1 (F_Sc_refusals (0 : Int32) S) (fun r7 => some (.inl (Int32.toInt64 r7))) else (if x1 = 13 then b1 (F_Sc_refusals (1 : Int32) S) (fun r9 => some (.inl (Int32.toInt64 r9))) else (if x1 = 14 then b1 (F_Sc_refusals (2 : Int32) S) (fun r11 => some (.inl (Int32.toInt64 r11))) else (some (.inr 1))))))))))))))))
set_option maxRecDepth 100000 in
theorem X_w_count {nL : Nat} {xs : Nat → Int32} {M : Sto} {O : Sto} {d : Nat} (hd : 8 ≤ d) : ∀ (x1 : Int32) (S : Sto) (r : Int64 ⊕ Nat), F_w_count x1 S = some r → EX nL xs 1 MI_83 d 0 [some (.ref 0), some (.int x1)] [] (S, M, O) (rsJ r) (S, M, O) := by
  intro x1 S r hF
  unfold F_w_count at hF
  refine Ex_go 2 (pc' := swp x1 [(0, 76), (1, 84), (2, 92), (3, 101), (4, 110), (5, 119), (6, 131), (7, 140), (8, 149), (9, 159), (10, 169), (11, 178), (12, 187), (13, 197), (14, 207)] 217) (L' := [some (.ref 0), some (.int x1)]) (st' := []) (σ' := (S, M, O)) (rfl) ?_
  refine Ex_br (c := x1 = 0) (fun hc => ?_) (fun hc => ?_)
  · rw [if_pos hc] at hF
    refine Ex_go 3 (pc' := 83) (L' := [some (.ref 0), some (.int x1)]) (st' := [.long (gl S 26)]) (σ' := (S, M, O)) (rfl) ?_
    cases hF
    exact Ex_fin rfl
  rw [if_neg hc] at hF
  refine Ex_br (c := x1 = 1) (fun hc => ?_) (fun hc => ?_)
  · rw [if_pos hc] at hF
    refine Ex_go 3 (pc' := 91) (L' := [some (.ref 0), some (.int x1)]) (st' := [.long (gl S 27)]) (σ' := (S, M, O)) (rfl) ?_
    cases hF
    exact Ex_fin rfl
  rw [if_neg hc] at hF
  refine Ex_br (c := x1 = 2) (fun hc => ?_) (fun hc => ?_)
  · rw [if_pos hc] at hF
    refine Ex_go 4 (pc' := 100) (L' := [some (.ref 0), some (.int x1)]) (st' := [.long (Int32.toInt64 (gi S 22))]) (σ' := (S, M, O)) (rfl) ?_
    cases hF
    exact Ex_fin rfl
  rw [if_neg hc] at hF
  refine Ex_br (c := x1 = 3) (fun hc => ?_) (fun hc => ?_)
  · rw [if_pos hc] at hF
    refine Ex_go 4 (pc' := 109) (L' := [some (.ref 0), some (.int x1)]) (st' := [.long (Int32.toInt64 (gi S 28))]) (σ' := (S, M, O)) (rfl) ?_
    cases hF
    exact Ex_fin rfl
  rw [if_neg hc] at hF
  refine Ex_br (c := x1 = 4) (fun hc => ?_) (fun hc => ?_)
  · rw [if_pos hc] at hF
    refine Ex_go 4 (pc' := 118) (L' := [some (.ref 0), some (.int x1)]) (st' := [.long (Int32.toInt64 (gi S 23))]) (σ' := (S, M, O)) (rfl) ?_
    cases hF
    exact Ex_fin rfl
  rw [if_neg hc] at hF
  refine Ex_br (c := x1 = 5) (fun hc => ?_) (fun hc => ?_)
  · rw [if_pos hc] at hF
    refine Ex_go 3 (pc' := 126) (L' := [some (.ref 0), some (.int x1)]) (st' := [.long (gl S 29)]) (σ' := (S, M, O)) (rfl) ?_
    obtain ⟨r1, hx2, hF⟩ := b1_i hF
    refine Ex_callK (K1 := 0) (K2 := 1) (kind := 0) (y := 80) (as := [.long (gl S 29)]) (rest := []) (L0 := [some (.long (gl S 29)), none]) (d' := 1) (v := some (.int r1)) (σ1 := (S, M, O)) rfl rfl mt_80 rfl rfl (by omega) (X_j_bitCountJ (Nat.le_refl _) _ _ hx2) (Ex_st (st2 := [.int r1]) rfl ?_) (by omega)
    refine Ex_go 1 (pc' := 130) (L' := [some (.ref 0), some (.int x1)]) (st' := [.long (Int32.toInt64 r1)]) (σ' := (S, M, O)) (rfl) ?_
    cases hF
    exact Ex_fin rfl
  rw [if_neg hc] at hF
  refine Ex_br (c := x1 = 6) (fun hc => ?_) (fun hc => ?_)
  · rw [if_pos hc] at hF
    refine Ex_go 4 (pc' := 139) (L' := [some (.ref 0), some (.int x1)]) (st' := [.long (Int32.toInt64 (gi S 30))]) (σ' := (S, M, O)) (rfl) ?_
    cases hF
    exact Ex_fin rfl
  rw [if_neg hc] at hF
  refine Ex_br (c := x1 = 7) (fun hc => ?_) (fun hc => ?_)
  · rw [if_pos hc] at hF
    refine Ex_go 4 (pc' := 148) (L' := [some (.ref 0), some (.int x1)]) (st' := [.long (Int32.toInt64 (gi S 31))]) (σ' := (S, M, O)) (rfl) ?_
    cases hF
    exact Ex_fin rfl
  rw [if_neg hc] at hF
  refine Ex_br (c := x1 = 8) (fun hc => ?_) (fun hc => ?_)
  · rw [if_pos hc] at hF
    refine Ex_go 3 (pc' := 154) (L' := [some (.ref 0), some (.int x1)]) (st' := [.int (1 : Int32), .ref 27]) (σ' := (S, M, O)) (rfl) ?_
    obtain ⟨r3, hx4, hF⟩ := b1_i hF
    refine Ex_callK (K1 := 0) (K2 := 1) (kind := 2) (y := 81) (as := [.ref 27, .int (1 : Int32)]) (rest := []) (L0 := [some (.ref 27), some (.int (1 : Int32)), none, none]) (d' := 1) (v := some (.int r3)) (σ1 := (S, M, O)) rfl rfl mt_81 rfl rfl (by omega) (X_Sc_wishesThat (Nat.le_refl _) _ _ _ hx4) (Ex_st (st2 := [.int r3]) rfl ?_) (by omega)
    refine Ex_go 1 (pc' := 158) (L' := [some (.ref 0), some (.int x1)]) (st' := [.long (Int32.toInt64 r3)]) (σ' := (S, M, O)) (rfl) ?_
    cases hF
    exact Ex_fin rfl
  rw [if_neg hc] at hF
  refine Ex_br (c := x1 = 9) (fun hc => ?_) (fun hc => ?_)
  · rw [if_pos hc] at hF
    refine Ex_go 3 (pc' := 164) (L' := [some (.ref 0), some (.int x1)]) (st' := [.int (0 : Int32), .ref 27]) (σ' := (S, M, O)) (rfl) ?_
    obtain ⟨r5, hx6, hF⟩ := b1_i hF
    refine Ex_callK (K1 := 0) (K2 := 1) (kind := 2) (y := 81) (as := [.ref 27, .int (0 : Int32)]) (rest := []) (L0 := [some (.ref 27), some (.int (0 : Int32)), none, none]) (d' := 1) (v := some (.int r5)) (σ1 := (S, M, O)) rfl rfl mt_81 rfl rfl (by omega) (X_Sc_wishesThat (Nat.le_refl _) _ _ _ hx6) (Ex_st (st2 := [.int r5]) rfl ?_) (by omega)
    refine Ex_go 1 (pc' := 168) (L' := [some (.ref 0), some (.int x1)]) (st' := [.long (Int32.toInt64 r5)]) (σ' := (S, M, O)) (rfl) ?_
    cases hF
    exact Ex_fin rfl
  rw [if_neg hc] at hF
  refine Ex_br (c := x1 = 10) (fun hc => ?_) (fun hc => ?_)
  · rw [if_pos hc] at hF
    refine Ex_go 4 (pc' := 177) (L' := [some (.ref 0), some (.int x1)]) (st' := [.long (Int32.toInt64 (gi S 33))]) (σ' := (S, M, O)) (rfl) ?_
    cases hF
    exact Ex_fin rfl
  rw [if_neg hc] at hF
  refine Ex_br (c := x1 = 11) (fun hc => ?_) (fun hc => ?_)
  · rw [if_pos hc] at hF
    refine Ex_go 4 (pc' := 186) (L' := [some (.ref 0), some (.int x1)]) (st' := [.long (Int32.toInt64 (gi S 7))]) (σ' := (S, M, O)) (rfl) ?_
    cases hF
    exact Ex_fin rfl
  rw [if_neg hc] at hF
  refine Ex_br (c := x1 = 12) (fun hc => ?_) (fun hc => ?_)
  · rw [if_pos hc] at hF
    refine Ex_go 3 (pc' := 192) (L' := [some (.ref 0), some (.int x1)]) (st' := [.int (0 : Int32), .ref 27]) (σ' := (S, M, O)) (rfl) ?_
    obtain ⟨r7, hx8, hF⟩ := b1_i hF
    refine Ex_callK (K1 := 0) (K2 := 1) (kind := 2) (y := 82) (as := [.ref 27, .int (0 : Int32)]) (rest := []) (L0 := [some (.ref 27), some (.int (0 : Int32))]) (d' := 1) (v := some (.int r7)) (σ1 := (S, M, O)) rfl rfl mt_82 rfl rfl (by omega) (X_Sc_refusals (Nat.le_refl _) _ _ _ hx8) (Ex_st (st2 := [.int r7]) rfl ?_) (by omega)
    refine Ex_go 1 (pc' := 196) (L' := [some (.ref 0), some (.int x1)]) (st' := [.long (Int32.toInt64 r7)]) (σ' := (S, M, O)) (rfl) ?_
    cases hF
    exact Ex_fin rfl
  rw [if_neg hc] at hF
  refine Ex_br (c := x1 = 13) (fun hc => ?_) (fun hc => ?_)
  · rw [if_pos hc] at hF
    refine Ex_go 3 (pc' := 202) (L' := [some (.ref 0), some (.int x1)]) (st' := [.int (1 : Int32), .ref 27]) (σ' := (S, M, O)) (rfl) ?_
    obtain ⟨r9, hx10, hF⟩ := b1_i hF
    refine Ex_callK (K1 := 0) (K2 := 1) (kind := 2) (y := 82) (as := [.ref 27, .int (1 : Int32)]) (rest := []) (L0 := [some (.ref 27), some (.int (1 : Int32))]) (d' := 1) (v := some (.int r9)) (σ1 := (S, M, O)) rfl rfl mt_82 rfl rfl (by omega) (X_Sc_refusals (Nat.le_refl _) _ _ _ hx10) (Ex_st (st2 := [.int r9]) rfl ?_) (by omega)
    refine Ex_go 1 (pc' := 206) (L' := [some (.ref 0), some (.int x1)]) (st' := [.long (Int32.toInt64 r9)]) (σ' := (S, M, O)) (rfl) ?_
    cases hF
    exact Ex_fin rfl
  rw [if_neg hc] at hF
  refine Ex_br (c := x1 = 14) (fun hc => ?_) (fun hc => ?_)
  · rw [if_pos hc] at hF
    refine Ex_go 3 (pc' := 212) (L' := [some (.ref 0), some (.int x1)]) (st' := [.int (2 : Int32), .ref 27]) (σ' := (S, M, O)) (rfl) ?_
    obtain ⟨r11, hx12, hF⟩ := b1_i hF
    refine Ex_callK (K1 := 0) (K2 := 1) (kind := 2) (y := 82) (as := [.ref 27, .int (2 : Int32)]) (rest := []) (L0 := [some (.ref 27), some (.int (2 : Int32))]) (d' := 1) (v := some (.int r11)) (σ1 := (S, M, O)) rfl rfl mt_82 rfl rfl (by omega) (X_Sc_refusals (Nat.le_refl _) _ _ _ hx12) (Ex_st (st2 := [.int r11]) rfl ?_) (by omega)
    refine Ex_go 1 (pc' := 216) (L' := [some (.ref 0), some (.int x1)]) (st' := [.long (Int32.toInt64 r11)]) (σ' := (S, M, O)) (rfl) ?_
    cases hF
    exact Ex_fin rfl
  rw [if_neg hc] at hF
  cases hF
  exact Ex_thr rfl (by omega) (Nat.le_refl _)
def F_l_count (x1 : Int32) (S : Sto) (O : Sto) : Option (Int32 × Sto) := b1 (F_w_count x1 S) (fun r1 => su r1 (fun v3 => some ((0 : Int32), (ul O 2000 (vp_updL (al O 2000) (Int32.toNatClampNeg (0 : Int32)) v3)))) (fun z4 => if z4 = 1 then some ((1 : Int32), O) else (none)))
set_option maxRecDepth 100000 in
theorem X_l_count {nL : Nat} {xs : Nat → Int32} {M : Sto} {d : Nat} (hd : 9 ≤ d) : ∀ (x1 : Int32) (S : Sto) (O : Sto) (r : Int32) (O' : Sto), F_l_count x1 S O = some (r, O') → EX nL xs 1 MI_84 d 0 [some (.ref 0), some (.int x1), some (.ref 2000), none] [] (S, M, O) (.inl (some (.int r))) (S, M, O') := by
  intro x1 S O r O' hF
  unfold F_l_count at hF
  refine Ex_go 4 (pc' := 4) (L' := [some (.ref 0), some (.int x1), some (.ref 2000), none]) (st' := [.int x1, .ref 0, .int (0 : Int32), .ref 2000]) (σ' := (S, M, O)) (rfl) ?_
  obtain ⟨r1, hx2, hF⟩ := b1_i hF
  cases r1 with
  | inl v3 =>
    rw [su_l] at hF
    refine Ex_callK (K1 := 1) (K2 := 0) (kind := 3) (y := 83) (as := [.ref 0, .int x1]) (rest := [.int (0 : Int32), .ref 2000]) (L0 := [some (.ref 0), some (.int x1)]) (d' := 8) (v := some (.long v3)) (σ1 := (S, M, O)) rfl rfl mt_83 rfl rfl (by omega) (X_w_count (Nat.le_refl _) _ _ _ hx2) (Ex_st (st2 := [.long v3, .int (0 : Int32), .ref 2000]) rfl ?_) (by omega)
    refine Ex_chk (b := ib (0 : Int32) 1) (pc' := 8) (L' := [some (.ref 0), some (.int x1), some (.ref 2000), none]) (st' := []) (σ' := (S, M, (ul O 2000 (vp_updL (al O 2000) (Int32.toNatClampNeg (0 : Int32)) v3)))) rfl (by decide) ?_
    refine Ex_go 2 (pc' := 15) (L' := [some (.ref 0), some (.int x1), some (.ref 2000), none]) (st' := [.int (0 : Int32)]) (σ' := (S, M, (ul O 2000 (vp_updL (al O 2000) (Int32.toNatClampNeg (0 : Int32)) v3)))) (rfl) ?_
    cases hF
    exact Ex_fin rfl
  | inr z4 =>
    by_cases hz1 : z4 = 1
    · have hF : (if z4 = 1 then _ else _) = _ := hF
      rw [if_pos hz1] at hF
      subst hz1
      refine Ex_callX (K1 := 1) (K2 := 0) (y := 83) (as := [.ref 0, .int x1]) (rest := [.int (0 : Int32), .ref 2000]) (L0 := [some (.ref 0), some (.int x1)]) (d' := 8) (σ1 := (S, M, O)) (x := 1) (pc' := 12) (i := 3) rfl rfl mt_83 rfl rfl (by omega) (X_w_count (Nat.le_refl _) _ _ _ hx2) rfl (Ex_L (L2 := [some (.ref 0), some (.int x1), some (.ref 2000), none]) rfl ?_) (by omega)
      refine Ex_go 1 (pc' := 13) (L' := [some (.ref 0), some (.int x1), some (.ref 2000), none]) (st' := [.int (1 : Int32)]) (σ' := (S, M, O)) (rfl) ?_
      cases hF
      exact Ex_fin rfl
    have hF : (if z4 = 1 then _ else _) = _ := hF
    rw [if_neg hz1] at hF
    cases hF
def F_m_count_162 (x1 : Int32) (M : Sto) : Option (Int64 × Sto) := ck (ib (x1 - (12 : Int32)) 3) (some ((Int32.toInt64 (ai M 1008 (Int32.toNatClampNeg (x1 - (12 : Int32))))), M))
set_option maxRecDepth 100000 in
theorem X_m_count_162 {nL : Nat} {xs : Nat → Int32} {S : Sto} {O : Sto} {d : Nat} (hd : 2 ≤ d) : ∀ (x1 : Int32) (M : Sto) (r : Int64) (M' : Sto), F_m_count_162 x1 M = some (r, M') → EX nL xs 0 MI_86 d 162 [some (.ref 1000), some (.int x1)] [] (S, M, O) (.inl (some (.long r))) (S, M', O) := by
  intro x1 M r M' hF
  unfold F_m_count_162 at hF
  refine Ex_go 5 (pc' := 170) (L' := [some (.ref 1000), some (.int x1)]) (st' := [.int (x1 - (12 : Int32)), .ref 1008]) (σ' := (S, M, O)) (rfl) ?_
  obtain ⟨hc1, hF⟩ := ck_i hF
  refine Ex_chk (b := ib (x1 - (12 : Int32)) 3) (pc' := 171) (L' := [some (.ref 1000), some (.int x1)]) (st' := [.int (ai M 1008 (Int32.toNatClampNeg (x1 - (12 : Int32))))]) (σ' := (S, M, O)) rfl hc1 ?_
  refine Ex_go 1 (pc' := 172) (L' := [some (.ref 1000), some (.int x1)]) (st' := [.long (Int32.toInt64 (ai M 1008 (Int32.toNatClampNeg (x1 - (12 : Int32)))))]) (σ' := (S, M, O)) (rfl) ?_
  cases hF
  exact Ex_fin rfl
def F_m_count (x1 : Int32) (M : Sto) : Option (Int64 × Sto) := if x1 = 0 then some ((gl (si M 1001 (0 : Int32)) 1013), (si M 1001 (0 : Int32))) else (if x1 = 1 then some ((gl (si M 1001 (0 : Int32)) 1014), (si M 1001 (0 : Int32))) else (if x1 = 2 then some ((Int32.toInt64 (ai (si M 1001 (0 : Int32)) 1003 (Int32.toNatClampNeg (0 : Int32)))), (si M 1001 (0 : Int32))) else (if x1 = 3 then some ((Int32.toInt64 (gi (si M 1001 (0 : Int32)) 1016)), (si M 1001 (0 : Int32))) else (if x1 = 4 then some ((Int32.toInt64 (ai (si M 1001 (0 : Int32)) 1003 (Int32.toNatClampNeg (1 : Int32)))), (si M 1001 (0 : Int32))) else (if x1 = 5 then b1 (F_m_bitsOf (gl (si M 1001 (0 : Int32)) 1015)) (fun r1 => some ((Int32.toInt64 r1), (si M 1001 (0 : Int32)))) else (if x1 = 6 then some ((Int32.toInt64 (gi (si M 1001 (0 : Int32)) 1017)), (si M 1001 (0 : Int32))) else (if x1 = 7 then some ((Int32.toInt64 (gi (si M 1001 (0 : Int32)) 1018)), (si M 1001 (0 : Int32))) else (if x1 = 8 then some ((Int32.toInt64 (gi (si M 1001 (0 : Int32)) 1020)), (si M 1001 (0 : Int32))) else (if x1 = 9 then some ((Int32.toInt64 ((gi (si M 1001 (0 : Int32)) 1019) - (gi (si M 1001 (0 : Int32)) 1020))), (si M 1001 (0 : Int32))) else (if x1 = 10 then some ((Int32.toInt64 (gi (si M 1001 (0 : Int32)) 1021)), (si M 1001 (0 : Int32))) else (if x1 = 11 then some ((Int32.toInt64 (gi (si M 1001 (0 : Int32)) 1003)), (si M 1001 (0 : Int32))) else (if x1 = 12 then F_m_count_162 x1 (si M 1001 (0 : Int32)) else (if x1 = 13 then F_m_count_162 x1 (si M 1001 (0 : Int32)) else (if x1 = 14 then F_m_count_162 x1 (si M 1001 (0 : Int32)) else (b2 (F_m_fail (1 : Int32) (si M 1001 (0 : Int32))) (fun r3 M5 => some ((Int32.toInt64 r3), M5)))))))))))))))))
set_option maxRecDepth 100000 in
theorem X_m_count {nL : Nat} {xs : Nat → Int32} {S : Sto} {O : Sto} {d : Nat} (hd : 2 ≤ d) : ∀ (x1 : Int32) (M : Sto) (r : Int64) (M' : Sto), F_m_count x1 M = some (r, M') → EX nL xs 0 MI_86 d 0 [some (.ref 1000), some (.int x1)] [] (S, M, O) (.inl (some (.long r))) (S, M', O) := by
  intro x1 M r M' hF
  unfold F_m_count at hF
  refine Ex_go 5 (pc' := swp x1 [(0, 80), (1, 85), (2, 90), (3, 98), (4, 104), (5, 112), (6, 121), (7, 127), (8, 133), (9, 139), (10, 150), (11, 156), (12, 162), (13, 162), (14, 162)] 173) (L' := [some (.ref 1000), some (.int x1)]) (st' := []) (σ' := (S, (si M 1001 (0 : Int32)), O)) (rfl) ?_
  refine Ex_br (c := x1 = 0) (fun hc => ?_) (fun hc => ?_)
  · rw [if_pos hc] at hF
    refine Ex_go 2 (pc' := 84) (L' := [some (.ref 1000), some (.int x1)]) (st' := [.long (gl (si M 1001 (0 : Int32)) 1013)]) (σ' := (S, (si M 1001 (0 : Int32)), O)) (rfl) ?_
    cases hF
    exact Ex_fin rfl
  rw [if_neg hc] at hF
  refine Ex_br (c := x1 = 1) (fun hc => ?_) (fun hc => ?_)
  · rw [if_pos hc] at hF
    refine Ex_go 2 (pc' := 89) (L' := [some (.ref 1000), some (.int x1)]) (st' := [.long (gl (si M 1001 (0 : Int32)) 1014)]) (σ' := (S, (si M 1001 (0 : Int32)), O)) (rfl) ?_
    cases hF
    exact Ex_fin rfl
  rw [if_neg hc] at hF
  refine Ex_br (c := x1 = 2) (fun hc => ?_) (fun hc => ?_)
  · rw [if_pos hc] at hF
    refine Ex_go 3 (pc' := 95) (L' := [some (.ref 1000), some (.int x1)]) (st' := [.int (0 : Int32), .ref 1003]) (σ' := (S, (si M 1001 (0 : Int32)), O)) (rfl) ?_
    refine Ex_chk (b := ib (0 : Int32) 6) (pc' := 96) (L' := [some (.ref 1000), some (.int x1)]) (st' := [.int (ai (si M 1001 (0 : Int32)) 1003 (Int32.toNatClampNeg (0 : Int32)))]) (σ' := (S, (si M 1001 (0 : Int32)), O)) rfl (by decide) ?_
    refine Ex_go 1 (pc' := 97) (L' := [some (.ref 1000), some (.int x1)]) (st' := [.long (Int32.toInt64 (ai (si M 1001 (0 : Int32)) 1003 (Int32.toNatClampNeg (0 : Int32))))]) (σ' := (S, (si M 1001 (0 : Int32)), O)) (rfl) ?_
    cases hF
    exact Ex_fin rfl
  rw [if_neg hc] at hF
  refine Ex_br (c := x1 = 3) (fun hc => ?_) (fun hc => ?_)
  · rw [if_pos hc] at hF
    refine Ex_go 3 (pc' := 103) (L' := [some (.ref 1000), some (.int x1)]) (st' := [.long (Int32.toInt64 (gi (si M 1001 (0 : Int32)) 1016))]) (σ' := (S, (si M 1001 (0 : Int32)), O)) (rfl) ?_
    cases hF
    exact Ex_fin rfl
  rw [if_neg hc] at hF
  refine Ex_br (c := x1 = 4) (fun hc => ?_) (fun hc => ?_)
  · rw [if_pos hc] at hF
    refine Ex_go 3 (pc' := 109) (L' := [some (.ref 1000), some (.int x1)]) (st' := [.int (1 : Int32), .ref 1003]) (σ' := (S, (si M 1001 (0 : Int32)), O)) (rfl) ?_
    refine Ex_chk (b := ib (1 : Int32) 6) (pc' := 110) (L' := [some (.ref 1000), some (.int x1)]) (st' := [.int (ai (si M 1001 (0 : Int32)) 1003 (Int32.toNatClampNeg (1 : Int32)))]) (σ' := (S, (si M 1001 (0 : Int32)), O)) rfl (by decide) ?_
    refine Ex_go 1 (pc' := 111) (L' := [some (.ref 1000), some (.int x1)]) (st' := [.long (Int32.toInt64 (ai (si M 1001 (0 : Int32)) 1003 (Int32.toNatClampNeg (1 : Int32))))]) (σ' := (S, (si M 1001 (0 : Int32)), O)) (rfl) ?_
    cases hF
    exact Ex_fin rfl
  rw [if_neg hc] at hF
  refine Ex_br (c := x1 = 5) (fun hc => ?_) (fun hc => ?_)
  · rw [if_pos hc] at hF
    refine Ex_go 2 (pc' := 116) (L' := [some (.ref 1000), some (.int x1)]) (st' := [.long (gl (si M 1001 (0 : Int32)) 1015)]) (σ' := (S, (si M 1001 (0 : Int32)), O)) (rfl) ?_
    obtain ⟨r1, hx2, hF⟩ := b1_i hF
    refine Ex_call (kind := 0) (y := 85) (as := [.long (gl (si M 1001 (0 : Int32)) 1015)]) (rest := []) (L0 := [some (.long (gl (si M 1001 (0 : Int32)) 1015)), none, none, none, none]) (d' := 1) (v := some (.int r1)) (σ1 := (S, (si M 1001 (0 : Int32)), O)) rfl rfl mt_85 rfl rfl (by omega) (X_m_bitsOf (Nat.le_refl _) _ _ hx2) (Ex_st (st2 := [.int r1]) rfl ?_)
    refine Ex_go 1 (pc' := 120) (L' := [some (.ref 1000), some (.int x1)]) (st' := [.long (Int32.toInt64 r1)]) (σ' := (S, (si M 1001 (0 : Int32)), O)) (rfl) ?_
    cases hF
    exact Ex_fin rfl
  rw [if_neg hc] at hF
  refine Ex_br (c := x1 = 6) (fun hc => ?_) (fun hc => ?_)
  · rw [if_pos hc] at hF
    refine Ex_go 3 (pc' := 126) (L' := [some (.ref 1000), some (.int x1)]) (st' := [.long (Int32.toInt64 (gi (si M 1001 (0 : Int32)) 1017))]) (σ' := (S, (si M 1001 (0 : Int32)), O)) (rfl) ?_
    cases hF
    exact Ex_fin rfl
  rw [if_neg hc] at hF
  refine Ex_br (c := x1 = 7) (fun hc => ?_) (fun hc => ?_)
  · rw [if_pos hc] at hF
    refine Ex_go 3 (pc' := 132) (L' := [some (.ref 1000), some (.int x1)]) (st' := [.long (Int32.toInt64 (gi (si M 1001 (0 : Int32)) 1018))]) (σ' := (S, (si M 1001 (0 : Int32)), O)) (rfl) ?_
    cases hF
    exact Ex_fin rfl
  rw [if_neg hc] at hF
  refine Ex_br (c := x1 = 8) (fun hc => ?_) (fun hc => ?_)
  · rw [if_pos hc] at hF
    refine Ex_go 3 (pc' := 138) (L' := [some (.ref 1000), some (.int x1)]) (st' := [.long (Int32.toInt64 (gi (si M 1001 (0 : Int32)) 1020))]) (σ' := (S, (si M 1001 (0 : Int32)), O)) (rfl) ?_
    cases hF
    exact Ex_fin rfl
  rw [if_neg hc] at hF
  refine Ex_br (c := x1 = 9) (fun hc => ?_) (fun hc => ?_)
  · rw [if_pos hc] at hF
    refine Ex_go 6 (pc' := 149) (L' := [some (.ref 1000), some (.int x1)]) (st' := [.long (Int32.toInt64 ((gi (si M 1001 (0 : Int32)) 1019) - (gi (si M 1001 (0 : Int32)) 1020)))]) (σ' := (S, (si M 1001 (0 : Int32)), O)) (rfl) ?_
    cases hF
    exact Ex_fin rfl
  rw [if_neg hc] at hF
  refine Ex_br (c := x1 = 10) (fun hc => ?_) (fun hc => ?_)
  · rw [if_pos hc] at hF
    refine Ex_go 3 (pc' := 155) (L' := [some (.ref 1000), some (.int x1)]) (st' := [.long (Int32.toInt64 (gi (si M 1001 (0 : Int32)) 1021))]) (σ' := (S, (si M 1001 (0 : Int32)), O)) (rfl) ?_
    cases hF
    exact Ex_fin rfl
  rw [if_neg hc] at hF
  refine Ex_br (c := x1 = 11) (fun hc => ?_) (fun hc => ?_)
  · rw [if_pos hc] at hF
    refine Ex_go 3 (pc' := 161) (L' := [some (.ref 1000), some (.int x1)]) (st' := [.long (Int32.toInt64 (gi (si M 1001 (0 : Int32)) 1003))]) (σ' := (S, (si M 1001 (0 : Int32)), O)) (rfl) ?_
    cases hF
    exact Ex_fin rfl
  rw [if_neg hc] at hF
  refine Ex_br (c := x1 = 12) (fun hc => ?_) (fun hc => ?_)
  · rw [if_pos hc] at hF
    exact Ex_mono (L := [some (.ref 1000), some (.int x1)]) (Le_s (Le_s (Le_0))) (X_m_count_162 hd _ _ _ _ hF) (Nat.le_refl _) (by omega)
  rw [if_neg hc] at hF
  refine Ex_br (c := x1 = 13) (fun hc => ?_) (fun hc => ?_)
  · rw [if_pos hc] at hF
    exact Ex_mono (L := [some (.ref 1000), some (.int x1)]) (Le_s (Le_s (Le_0))) (X_m_count_162 hd _ _ _ _ hF) (Nat.le_refl _) (by omega)
  rw [if_neg hc] at hF
  refine Ex_br (c := x1 = 14) (fun hc => ?_) (fun hc => ?_)
  · rw [if_pos hc] at hF
    exact Ex_mono (L := [some (.ref 1000), some (.int x1)]) (Le_s (Le_s (Le_0))) (X_m_count_162 hd _ _ _ _ hF) (Nat.le_refl _) (by omega)
  rw [if_neg hc] at hF
  refine Ex_go 2 (pc' := 175) (L' := [some (.ref 1000), some (.int x1)]) (st' := [.int (1 : Int32), .ref 1000]) (σ' := (S, (si M 1001 (0 : Int32)), O)) (rfl) ?_
  obtain ⟨r3, M5, hx4, hF⟩ := b2_i hF
  refine Ex_call (kind := 2) (y := 50) (as := [.ref 1000, .int (1 : Int32)]) (rest := []) (L0 := [some (.ref 1000), some (.int (1 : Int32))]) (d' := 1) (v := some (.int r3)) (σ1 := (S, M5, O)) rfl rfl mt_50 rfl rfl (by omega) (X_m_fail (Nat.le_refl _) _ _ _ _ hx4) (Ex_st (st2 := [.int r3]) rfl ?_)
  refine Ex_go 1 (pc' := 179) (L' := [some (.ref 1000), some (.int x1)]) (st' := [.long (Int32.toInt64 r3)]) (σ' := (S, M5, O)) (rfl) ?_
  cases hF
  exact Ex_fin rfl
