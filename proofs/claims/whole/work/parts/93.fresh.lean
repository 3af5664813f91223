/-! ===== the stores behind the constructors ===== -/
def kS0 : Sto := (fun k => if k = 5 then 30 else if k = 8 then -1 else if k = 23 then 30 else if k = 25 then 1 else if k = 42 then -1 else if k = 43 then -1 else 0,
  fun k => if k = 26 then 1 else if k = 27 then 1000 else if k = 34 then 1 else if k = 35 then 1000 else 0, fun _ _ => 0,
  fun k => if k = 22 then (fun j => if j = 0 then 1 else 0) else if k = 24 then (fun j => if j = 0 then 1 else 0) else if k = 25 then (fun j => if j = 0 then 1000000000000 else 0) else fun _ => 0, fun k => if k = 48 then 54 else if k = 49 then 55 else 0)
def kM0 : Sto := (fun k => if k = 1012 then -1 else 0, fun k => if k = 1013 then 1 else if k = 1014 then 1000 else 0, fun k => if k = 1003 then (fun j => if j = 5 then 0 else (if j = 4 then 30 else (if j = 3 then 0 else (if j = 2 then 0 else (if j = 1 then 30 else (if j = 0 then 0 else 0)))))) else fun _ => 0, fun _ _ => 0, fun _ => 0)
def kO0 : Sto := (fun _ => 0, fun _ => 0, fun _ _ => 0, fun _ _ => 0, fun _ => 0)
theorem Rl_0 : Rl kS0 kM0 := by
  refine ⟨(0, fun _ => 0), -1, ((0, fun _ => (0, 0, 0, 0, 0)), 30, (0, fun _ => (0, 0))), ((1, 1000, 0, 0, 0), (0, fun _ => (1, 1, 0, 0, 0)), (0, fun _ => 0, fun _ => false), (0, fun _ => 0), fun _ => 0), none, ?_, ?_, fun k hk => (by cases hk), ?_, ?_⟩
  · exact ⟨Nat.zero_le _, fun i hi => absurd hi (Nat.not_lt_zero i), ⟨by decide, by decide⟩, Nat.zero_le _, fun i hi => absurd hi (Nat.not_lt_zero i), fun h => absurd rfl h⟩
  · exact ⟨⟨by decide, by decide, by decide, by decide, by decide⟩, by decide, fun i hi => absurd hi (Nat.not_lt_zero i), by decide, fun i hi => absurd hi (Nat.not_lt_zero i), by decide, fun i hi => absurd hi (Nat.not_lt_zero i)⟩
  · refine ⟨⟨by decide, by decide, fun i hi => absurd hi (Nat.not_lt_zero i)⟩, by decide, ?_, ?_, by decide, fun k hk => (by cases hk), Or.inl ⟨by decide, by decide⟩⟩
    · refine ⟨by decide, fun i hi => absurd hi (Nat.not_lt_zero i), by decide, by decide, by decide, fun i hi => absurd hi (Nat.not_lt_zero i), ?_, by decide, ?_⟩
      · refine (show gi kS0 21 = bI false by decide).trans (congrArg bI (decide_eq_false ?_).symm)
        rintro ⟨i, hi, -⟩
        exact Nat.not_lt_zero i hi
      · intro s hs
        obtain rfl : s = 0 := Nat.lt_one_iff.mp hs
        exact ⟨1, 0, 1, 1000000000000, by decide, by decide, by decide, by decide, sh_0 _⟩
    · exact ⟨by decide, by decide, by decide, by decide, by decide, by decide, fun i hi => absurd hi (Nat.not_lt_zero i), by decide, fun i hi => absurd hi (Nat.not_lt_zero i), by decide, fun i hi => absurd hi (Nat.not_lt_zero i), fun i _ => rfl⟩
  · refine ⟨⟨by decide, fun i hi => absurd hi (Nat.not_lt_zero i)⟩, by decide, ?_, ?_, by decide, fun k hk => (by cases hk)⟩
    · exact ⟨by decide, by decide, by decide, fun i hi => absurd hi (Nat.not_lt_zero i), fun i hi => absurd hi (Nat.not_lt_zero i)⟩
    · exact ⟨by decide, by decide, by decide, by decide, by decide, by decide, by decide, by decide, by decide, fun i hi => absurd hi (Nat.not_lt_zero i), fun i hi => absurd hi (Nat.not_lt_zero i), fun i hi => absurd hi (Nat.not_lt_zero i), fun i _ => rfl⟩
/-- the law behind the constructors answers 1 -/
theorem law_0 {nL : Nat} {xs : Nat → Int32} (hn : nL ≤ 3072) : ∃ S' M' O', EX nL xs 513 MI_281 98 23 [some (.ref 2500), some (.ref 0), some (.ref 1000), some (.ref 2000), some (.int 0), none, none, none] [] (kS0, kM0, kO0) (.inl (some (.int 1))) (S', M', O') := by
  obtain ⟨S', M', O', h⟩ := law_ok (nL := nL) (xs := xs) hn sea_ok all_ok some_ok just_ok haul_ok next_ok place_ok most_ok find_ok fleets_ok 512 513 0 kS0 kM0 kO0 (by omega) (by omega) (by omega) Rl_0
  exact ⟨S', M', O', X_l_law_23 (Nat.le_refl _) 513 0 kS0 kM0 kO0 1 S' M' O' h⟩
