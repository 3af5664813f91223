/-! ===== the law's loop, from the operations ===== -/
def Ok_all : Prop := ∀ {S M O : Sto}, Rl S M → ∀ (x : Int32), ∃ k O' b M', F_l_all x S O = some (k, O') ∧ F_m_all x M = some (b, M') ∧ gi M' 1001 = k ∧ (k = 0 → al O' 2000 (Int32.toNatClampNeg 0) = b) ∧ Rl S M'
def Ok_some : Prop := ∀ {S M O : Sto}, Rl S M → ∀ (x : Int32), ∃ k S' O' b M', F_l_some x S O = some (k, S', O') ∧ F_m_some x M = some (b, M') ∧ gi M' 1001 = k ∧ (k = 0 → al O' 2000 (Int32.toNatClampNeg 0) = b) ∧ Rl S' M'
def Ok_just : Prop := ∀ {S M O : Sto}, Rl S M → ∀ (x : Int32) (y : Int32), ∃ k S' O' b M', F_l_just x y S O = some (k, S', O') ∧ F_m_just x y M = some (b, M') ∧ gi M' 1001 = k ∧ (k = 0 → al O' 2000 (Int32.toNatClampNeg 0) = b) ∧ Rl S' M'
def Ok_next : Prop := ∀ {S M O : Sto}, Rl S M → ∀ (x : Int32) (y : Int64), ∃ k O' b M', F_l_next x y S O = some (k, O') ∧ F_m_next x y M = some (b, M') ∧ gi M' 1001 = k ∧ (k = 0 → al O' 2000 (Int32.toNatClampNeg 0) = b) ∧ Rl S M'
def Ok_place : Prop := ∀ {S M O : Sto}, Rl S M → ∀ (x : Int32) (y : Int64), ∃ k O' b M', F_l_place x y S O = some (k, O') ∧ F_m_place x y M = some (b, M') ∧ gi M' 1001 = k ∧ (k = 0 → al O' 2000 (Int32.toNatClampNeg 0) = b) ∧ Rl S M'
def Ok_most : Prop := ∀ {S M O : Sto}, Rl S M → ∀ (x : Int32), ∃ k S' O' b M', F_l_most x S O = some (k, S', O') ∧ F_m_most x M = some (b, M') ∧ gi M' 1001 = k ∧ (k = 0 → al O' 2000 (Int32.toNatClampNeg 0) = b.toInt64) ∧ Rl S' M'
def Ok_find : Prop := ∀ {S M O : Sto}, Rl S M → ∀ (x : Int32) (y : Int32), ∃ k S' O' b M', F_l_find x y S O = some (k, S', O') ∧ F_m_find x y M = some (b, M') ∧ gi M' 1001 = k ∧ (k = 0 → al O' 2000 (Int32.toNatClampNeg 0) = b.toInt64) ∧ Rl S' M'
def Ok_fleets : Prop := ∀ {S M O : Sto}, Rl S M → ∀ (x : Int32), ∃ k S' O' b M', F_l_fleets x S O = some (k, S', O') ∧ F_m_fleets x M = some (b, M') ∧ gi M' 1001 = k ∧ (k = 0 → al O' 2000 (Int32.toNatClampNeg 0) = b.toInt64) ∧ Rl S' M'
def Ok_sea : Prop := ∀ {S M O : Sto}, Rl S M → ∀ (x : Int32), ∃ k S' O' b M', F_l_sea x S O = some (k, S', O') ∧ F_m_sea x M = some (b, M') ∧ gi M' 1001 = k ∧ (k = 0 → al O' 2000 (Int32.toNatClampNeg 0) = b.toInt64) ∧ Rl S' M'
def Ok_haul : Prop := ∀ {S M : Sto}, Rl S M → ∃ r S' M', F_w_haul S = some (r, S') ∧ F_m_haul M = some (r, M') ∧ Rl S' M'
section
variable {nL p : Nat} {xs : Nat → Int32} {k23 : Int32 → Sto → Sto → Sto → Option (Int32 × Sto × Sto × Sto)} {S M O : Sto}
theorem ib_p {j : Nat} (hp : p + 6 ≤ nL) (hn : nL ≤ 3072) (hj : j < 6) : ib (nI p + nI j) nL = true := by rw [nI_add]; exact ib_nI (by omega) (by omega)
theorem lb_count (hp : p + 6 ≤ nL) (hn : nL ≤ 3072) (h : Rl S M) : ∃ S' M' O', F_l_law_354 nL xs k23 (nI p) S M O = k23 (nI (p + 6)) S' M' O' ∧ Rl S' M' := by
  have i1 : ib (nI p + 1) nL = true := ib_p (j := 1) hp hn (by decide)
  have n6 : nI p + 6 = nI (p + 6) := nI_add p 6
  obtain ⟨k, O', b, M', a1, a2, a3, a4, a5⟩ := count_ok (O := O) h (xs (Int32.toNatClampNeg (nI p + 1)))
  refine ⟨S, M', O', ?_, a5⟩
  unfold F_l_law_354
  rw [ck_t i1, a1, b2_s, ck_t i1, a2, b2_s, show F_m_thrown M' = some (gi M' 1001) from rfl, b1_s, if_pos a3]
  by_cases q : k = 0
  · rw [if_pos q, if_pos (a4 q)]; exact congrArg (fun q => k23 q S M' O') n6
  · rw [if_neg q]; exact congrArg (fun q => k23 q S M' O') n6
theorem lb_net (hp : p + 6 ≤ nL) (hn : nL ≤ 3072) (h : Rl S M) : ∃ S' M' O', F_l_law_409 nL xs k23 (nI p) S M O = k23 (nI (p + 6)) S' M' O' ∧ Rl S' M' := by
  have i1 : ib (nI p + 1) nL = true := ib_p (j := 1) hp hn (by decide)
  have i2 : ib (nI p + 2) nL = true := ib_p (j := 2) hp hn (by decide)
  have n6 : nI p + 6 = nI (p + 6) := nI_add p 6
  obtain ⟨k, O', b, M', a1, a2, a3, a4, a5⟩ := net_ok (O := O) h (xs (Int32.toNatClampNeg (nI p + 1))) (xs (Int32.toNatClampNeg (nI p + 2)))
  refine ⟨S, M', O', ?_, a5⟩
  unfold F_l_law_409
  rw [ck_t i1, ck_t i2, a1, b2_s, ck_t i1, ck_t i2, a2, b2_s, show F_m_thrown M' = some (gi M' 1001) from rfl, b1_s, if_pos a3]
  by_cases q : k = 0
  · rw [if_pos q, if_pos (a4 q)]; exact congrArg (fun q => k23 q S M' O') n6
  · rw [if_neg q]; exact congrArg (fun q => k23 q S M' O') n6
theorem lb_nets (hp : p + 6 ≤ nL) (hn : nL ≤ 3072) (h : Rl S M) : ∃ S' M' O', F_l_law_769 nL xs k23 (nI p) S M O = k23 (nI (p + 6)) S' M' O' ∧ Rl S' M' := by
  have i1 : ib (nI p + 1) nL = true := ib_p (j := 1) hp hn (by decide)
  have i2 : ib (nI p + 2) nL = true := ib_p (j := 2) hp hn (by decide)
  have n6 : nI p + 6 = nI (p + 6) := nI_add p 6
  obtain ⟨k, O', b, M', a1, a2, a3, a4, a5⟩ := nets_ok (O := O) h (((xs (Int32.toNatClampNeg (nI p + 1))).toInt64 <<< (Int32.toInt64 32 &&& 63)) ||| ((xs (Int32.toNatClampNeg (nI p + 2))).toInt64 &&& 4294967295))
  refine ⟨S, M', O', ?_, a5⟩
  unfold F_l_law_769
  rw [ck_t i1, ck_t i2, a1, b2_s, ck_t i1, ck_t i2, a2, b2_s, show F_m_thrown M' = some (gi M' 1001) from rfl, b1_s, if_pos a3]
  by_cases q : k = 0
  · rw [if_pos q, if_pos (a4 q)]; exact congrArg (fun q => k23 q S M' O') n6
  · rw [if_neg q]; exact congrArg (fun q => k23 q S M' O') n6
theorem lb_all (ok : Ok_all) (hp : p + 6 ≤ nL) (hn : nL ≤ 3072) (h : Rl S M) : ∃ S' M' O', F_l_law_857 nL xs k23 (nI p) S M O = k23 (nI (p + 6)) S' M' O' ∧ Rl S' M' := by
  have i1 : ib (nI p + 1) nL = true := ib_p (j := 1) hp hn (by decide)
  have n6 : nI p + 6 = nI (p + 6) := nI_add p 6
  obtain ⟨k, O', b, M', a1, a2, a3, a4, a5⟩ := ok (O := O) h (xs (Int32.toNatClampNeg (nI p + 1)))
  refine ⟨S, M', O', ?_, a5⟩
  unfold F_l_law_857
  rw [ck_t i1, a1, b2_s, ck_t i1, a2, b2_s, show F_m_thrown M' = some (gi M' 1001) from rfl, b1_s, if_pos a3]
  by_cases q : k = 0
  · rw [if_pos q, if_pos (a4 q)]; exact congrArg (fun q => k23 q S M' O') n6
  · rw [if_neg q]; exact congrArg (fun q => k23 q S M' O') n6
theorem lb_some (ok : Ok_some) (hp : p + 6 ≤ nL) (hn : nL ≤ 3072) (h : Rl S M) : ∃ S' M' O', F_l_law_912 nL xs k23 (nI p) S M O = k23 (nI (p + 6)) S' M' O' ∧ Rl S' M' := by
  have i1 : ib (nI p + 1) nL = true := ib_p (j := 1) hp hn (by decide)
  have n6 : nI p + 6 = nI (p + 6) := nI_add p 6
  obtain ⟨k, S', O', b, M', a1, a2, a3, a4, a5⟩ := ok (O := O) h (xs (Int32.toNatClampNeg (nI p + 1)))
  refine ⟨S', M', O', ?_, a5⟩
  unfold F_l_law_912
  rw [ck_t i1, a1, b3_s, ck_t i1, a2, b2_s, show F_m_thrown M' = some (gi M' 1001) from rfl, b1_s, if_pos a3]
  by_cases q : k = 0
  · rw [if_pos q, if_pos (a4 q)]; exact congrArg (fun q => k23 q S' M' O') n6
  · rw [if_neg q]; exact congrArg (fun q => k23 q S' M' O') n6
theorem lb_just (ok : Ok_just) (hp : p + 6 ≤ nL) (hn : nL ≤ 3072) (h : Rl S M) : ∃ S' M' O', F_l_law_967 nL xs k23 (nI p) S M O = k23 (nI (p + 6)) S' M' O' ∧ Rl S' M' := by
  have i1 : ib (nI p + 1) nL = true := ib_p (j := 1) hp hn (by decide)
  have i2 : ib (nI p + 2) nL = true := ib_p (j := 2) hp hn (by decide)
  have n6 : nI p + 6 = nI (p + 6) := nI_add p 6
  obtain ⟨k, S', O', b, M', a1, a2, a3, a4, a5⟩ := ok (O := O) h (xs (Int32.toNatClampNeg (nI p + 1))) (xs (Int32.toNatClampNeg (nI p + 2)))
  refine ⟨S', M', O', ?_, a5⟩
  unfold F_l_law_967
  rw [ck_t i1, ck_t i2, a1, b3_s, ck_t i1, ck_t i2, a2, b2_s, show F_m_thrown M' = some (gi M' 1001) from rfl, b1_s, if_pos a3]
  by_cases q : k = 0
  · rw [if_pos q, if_pos (a4 q)]; exact congrArg (fun q => k23 q S' M' O') n6
  · rw [if_neg q]; exact congrArg (fun q => k23 q S' M' O') n6
theorem lb_next (ok : Ok_next) (hp : p + 6 ≤ nL) (hn : nL ≤ 3072) (h : Rl S M) : ∃ S' M' O', F_l_law_1048 nL xs k23 (nI p) S M O = k23 (nI (p + 6)) S' M' O' ∧ Rl S' M' := by
  have i1 : ib (nI p + 1) nL = true := ib_p (j := 1) hp hn (by decide)
  have i2 : ib (nI p + 2) nL = true := ib_p (j := 2) hp hn (by decide)
  have i3 : ib (nI p + 3) nL = true := ib_p (j := 3) hp hn (by decide)
  have n6 : nI p + 6 = nI (p + 6) := nI_add p 6
  obtain ⟨k, O', b, M', a1, a2, a3, a4, a5⟩ := ok (O := O) h (xs (Int32.toNatClampNeg (nI p + 1))) (((xs (Int32.toNatClampNeg (nI p + 2))).toInt64 <<< (Int32.toInt64 32 &&& 63)) ||| ((xs (Int32.toNatClampNeg (nI p + 3))).toInt64 &&& 4294967295))
  refine ⟨S, M', O', ?_, a5⟩
  unfold F_l_law_1048
  rw [ck_t i1, ck_t i2, ck_t i3, a1, b2_s, ck_t i1, ck_t i2, ck_t i3, a2, b2_s, show F_m_thrown M' = some (gi M' 1001) from rfl, b1_s, if_pos a3]
  by_cases q : k = 0
  · rw [if_pos q, if_pos (a4 q)]; exact congrArg (fun q => k23 q S M' O') n6
  · rw [if_neg q]; exact congrArg (fun q => k23 q S M' O') n6
theorem lb_place (ok : Ok_place) (hp : p + 6 ≤ nL) (hn : nL ≤ 3072) (h : Rl S M) : ∃ S' M' O', F_l_law_1147 nL xs k23 (nI p) S M O = k23 (nI (p + 6)) S' M' O' ∧ Rl S' M' := by
  have i1 : ib (nI p + 1) nL = true := ib_p (j := 1) hp hn (by decide)
  have i2 : ib (nI p + 2) nL = true := ib_p (j := 2) hp hn (by decide)
  have i3 : ib (nI p + 3) nL = true := ib_p (j := 3) hp hn (by decide)
  have n6 : nI p + 6 = nI (p + 6) := nI_add p 6
  obtain ⟨k, O', b, M', a1, a2, a3, a4, a5⟩ := ok (O := O) h (xs (Int32.toNatClampNeg (nI p + 1))) (((xs (Int32.toNatClampNeg (nI p + 2))).toInt64 <<< (Int32.toInt64 32 &&& 63)) ||| ((xs (Int32.toNatClampNeg (nI p + 3))).toInt64 &&& 4294967295))
  refine ⟨S, M', O', ?_, a5⟩
  unfold F_l_law_1147
  rw [ck_t i1, ck_t i2, ck_t i3, a1, b2_s, ck_t i1, ck_t i2, ck_t i3, a2, b2_s, show F_m_thrown M' = some (gi M' 1001) from rfl, b1_s, if_pos a3]
  by_cases q : k = 0
  · rw [if_pos q, if_pos (a4 q)]; exact congrArg (fun q => k23 q S M' O') n6
  · rw [if_neg q]; exact congrArg (fun q => k23 q S M' O') n6
theorem lb_most (ok : Ok_most) (hp : p + 6 ≤ nL) (hn : nL ≤ 3072) (h : Rl S M) : ∃ S' M' O', F_l_law_1246 nL xs k23 (nI p) S M O = k23 (nI (p + 6)) S' M' O' ∧ Rl S' M' := by
  have i1 : ib (nI p + 1) nL = true := ib_p (j := 1) hp hn (by decide)
  have n6 : nI p + 6 = nI (p + 6) := nI_add p 6
  obtain ⟨k, S', O', b, M', a1, a2, a3, a4, a5⟩ := ok (O := O) h (xs (Int32.toNatClampNeg (nI p + 1)))
  refine ⟨S', M', O', ?_, a5⟩
  unfold F_l_law_1246
  rw [ck_t i1, a1, b3_s, ck_t i1, a2, b2_s, show F_m_thrown M' = some (gi M' 1001) from rfl, b1_s, if_pos a3]
  by_cases q : k = 0
  · rw [if_pos q, if_pos (a4 q)]; exact congrArg (fun q => k23 q S' M' O') n6
  · rw [if_neg q]; exact congrArg (fun q => k23 q S' M' O') n6
theorem lb_mesh (hp : p + 6 ≤ nL) (hn : nL ≤ 3072) (h : Rl S M) : ∃ S' M' O', F_l_law_1411 nL xs k23 (nI p) S M O = k23 (nI (p + 6)) S' M' O' ∧ Rl S' M' := by
  have i1 : ib (nI p + 1) nL = true := ib_p (j := 1) hp hn (by decide)
  have n6 : nI p + 6 = nI (p + 6) := nI_add p 6
  obtain ⟨k, O', b, M', a1, a2, a3, a4, a5⟩ := mesh_ok (O := O) h (xs (Int32.toNatClampNeg (nI p + 1)))
  refine ⟨S, M', O', ?_, a5⟩
  unfold F_l_law_1411
  rw [ck_t i1, a1, b2_s, ck_t i1, a2, b2_s, show F_m_thrown M' = some (gi M' 1001) from rfl, b1_s, if_pos a3]
  by_cases q : k = 0
  · rw [if_pos q, if_pos (a4 q)]; exact congrArg (fun q => k23 q S M' O') n6
  · rw [if_neg q]; exact congrArg (fun q => k23 q S M' O') n6
theorem lb_find (ok : Ok_find) (hp : p + 6 ≤ nL) (hn : nL ≤ 3072) (h : Rl S M) : ∃ S' M' O', F_l_law_1467 nL xs k23 (nI p) S M O = k23 (nI (p + 6)) S' M' O' ∧ Rl S' M' := by
  have i1 : ib (nI p + 1) nL = true := ib_p (j := 1) hp hn (by decide)
  have i2 : ib (nI p + 2) nL = true := ib_p (j := 2) hp hn (by decide)
  have n6 : nI p + 6 = nI (p + 6) := nI_add p 6
  obtain ⟨k, S', O', b, M', a1, a2, a3, a4, a5⟩ := ok (O := O) h (xs (Int32.toNatClampNeg (nI p + 1))) (xs (Int32.toNatClampNeg (nI p + 2)))
  refine ⟨S', M', O', ?_, a5⟩
  unfold F_l_law_1467
  rw [ck_t i1, ck_t i2, a1, b3_s, ck_t i1, ck_t i2, a2, b2_s, show F_m_thrown M' = some (gi M' 1001) from rfl, b1_s, if_pos a3]
  by_cases q : k = 0
  · rw [if_pos q, if_pos (a4 q)]; exact congrArg (fun q => k23 q S' M' O') n6
  · rw [if_neg q]; exact congrArg (fun q => k23 q S' M' O') n6
theorem lb_divided (hp : p + 6 ≤ nL) (hn : nL ≤ 3072) (h : Rl S M) : ∃ S' M' O', F_l_law_1631 nL xs k23 (nI p) S M O = k23 (nI (p + 6)) S' M' O' ∧ Rl S' M' := by
  have i1 : ib (nI p + 1) nL = true := ib_p (j := 1) hp hn (by decide)
  have i2 : ib (nI p + 2) nL = true := ib_p (j := 2) hp hn (by decide)
  have n6 : nI p + 6 = nI (p + 6) := nI_add p 6
  obtain ⟨k, S', O', b, M', a1, a2, a3, a4, a5⟩ := divided_ok (O := O) h (xs (Int32.toNatClampNeg (nI p + 1))) (xs (Int32.toNatClampNeg (nI p + 2)))
  refine ⟨S', M', O', ?_, a5⟩
  unfold F_l_law_1631
  rw [ck_t i1, ck_t i2, a1, b3_s, ck_t i1, ck_t i2, a2, b2_s, show F_m_thrown M' = some (gi M' 1001) from rfl, b1_s, if_pos a3]
  by_cases q : k = 0
  · rw [if_pos q, if_pos (a4 q)]; exact congrArg (fun q => k23 q S' M' O') n6
  · rw [if_neg q]; exact congrArg (fun q => k23 q S' M' O') n6
theorem lb_primes (hp : p + 6 ≤ nL) (hn : nL ≤ 3072) (h : Rl S M) : ∃ S' M' O', F_l_law_1698 nL xs k23 (nI p) S M O = k23 (nI (p + 6)) S' M' O' ∧ Rl S' M' := by
  have i1 : ib (nI p + 1) nL = true := ib_p (j := 1) hp hn (by decide)
  have i2 : ib (nI p + 2) nL = true := ib_p (j := 2) hp hn (by decide)
  have n6 : nI p + 6 = nI (p + 6) := nI_add p 6
  obtain ⟨k, S', O', b, M', a1, a2, a3, a4, a5⟩ := primes_ok (O := O) h (xs (Int32.toNatClampNeg (nI p + 1))) (xs (Int32.toNatClampNeg (nI p + 2)))
  refine ⟨S', M', O', ?_, a5⟩
  unfold F_l_law_1698
  rw [ck_t i1, ck_t i2, a1, b3_s, ck_t i1, ck_t i2, a2, b2_s, show F_m_thrown M' = some (gi M' 1001) from rfl, b1_s, if_pos a3]
  by_cases q : k = 0
  · rw [if_pos q, if_pos (a4 q)]; exact congrArg (fun q => k23 q S' M' O') n6
  · rw [if_neg q]; exact congrArg (fun q => k23 q S' M' O') n6
theorem lb_prime (hp : p + 6 ≤ nL) (hn : nL ≤ 3072) (h : Rl S M) : ∃ S' M' O', F_l_law_1766 nL xs k23 (nI p) S M O = k23 (nI (p + 6)) S' M' O' ∧ Rl S' M' := by
  have i1 : ib (nI p + 1) nL = true := ib_p (j := 1) hp hn (by decide)
  have n6 : nI p + 6 = nI (p + 6) := nI_add p 6
  obtain ⟨k, O', b, M', a1, a2, a3, a4, a5⟩ := prime_ok (O := O) h (xs (Int32.toNatClampNeg (nI p + 1)))
  refine ⟨S, M', O', ?_, a5⟩
  unfold F_l_law_1766
  rw [ck_t i1, a1, b2_s, ck_t i1, a2, b2_s, show F_m_thrown M' = some (gi M' 1001) from rfl, b1_s, if_pos a3]
  by_cases q : k = 0
  · rw [if_pos q, if_pos (a4 q)]; exact congrArg (fun q => k23 q S M' O') n6
  · rw [if_neg q]; exact congrArg (fun q => k23 q S M' O') n6
theorem lb_shoal (hp : p + 6 ≤ nL) (hn : nL ≤ 3072) (h : Rl S M) : ∃ S' M' O', F_l_law_1822 nL xs k23 (nI p) S M O = k23 (nI (p + 6)) S' M' O' ∧ Rl S' M' := by
  have i1 : ib (nI p + 1) nL = true := ib_p (j := 1) hp hn (by decide)
  have i2 : ib (nI p + 2) nL = true := ib_p (j := 2) hp hn (by decide)
  have n6 : nI p + 6 = nI (p + 6) := nI_add p 6
  obtain ⟨k, O', b, M', a1, a2, a3, a4, a5⟩ := shoal_ok (O := O) h (xs (Int32.toNatClampNeg (nI p + 1))) (xs (Int32.toNatClampNeg (nI p + 2)))
  refine ⟨S, M', O', ?_, a5⟩
  unfold F_l_law_1822
  rw [ck_t i1, ck_t i2, a1, b2_s, ck_t i1, ck_t i2, a2, b2_s, show F_m_thrown M' = some (gi M' 1001) from rfl, b1_s, if_pos a3]
  by_cases q : k = 0
  · rw [if_pos q, if_pos (a4 q)]; exact congrArg (fun q => k23 q S M' O') n6
  · rw [if_neg q]; exact congrArg (fun q => k23 q S M' O') n6
theorem lb_sums (hp : p + 6 ≤ nL) (hn : nL ≤ 3072) (h : Rl S M) : ∃ S' M' O', F_l_law_1890 nL xs k23 (nI p) S M O = k23 (nI (p + 6)) S' M' O' ∧ Rl S' M' := by
  have i1 : ib (nI p + 1) nL = true := ib_p (j := 1) hp hn (by decide)
  have i2 : ib (nI p + 2) nL = true := ib_p (j := 2) hp hn (by decide)
  have i3 : ib (nI p + 3) nL = true := ib_p (j := 3) hp hn (by decide)
  have i4 : ib (nI p + 4) nL = true := ib_p (j := 4) hp hn (by decide)
  have n6 : nI p + 6 = nI (p + 6) := nI_add p 6
  obtain ⟨k, S', O', b, M', a1, a2, a3, a4, a5⟩ := sums_ok (O := O) h (((xs (Int32.toNatClampNeg (nI p + 1))).toInt64 <<< (Int32.toInt64 32 &&& 63)) ||| ((xs (Int32.toNatClampNeg (nI p + 2))).toInt64 &&& 4294967295)) (xs (Int32.toNatClampNeg (nI p + 3))) (xs (Int32.toNatClampNeg (nI p + 4)))
  refine ⟨S', M', O', ?_, a5⟩
  unfold F_l_law_1890
  rw [ck_t i1, ck_t i2, ck_t i3, ck_t i4, a1, b3_s, ck_t i1, ck_t i2, ck_t i3, ck_t i4, a2, b2_s, show F_m_thrown M' = some (gi M' 1001) from rfl, b1_s, if_pos a3]
  by_cases q : k = 0
  · rw [if_pos q, if_pos (a4 q)]; exact congrArg (fun q => k23 q S' M' O') n6
  · rw [if_neg q]; exact congrArg (fun q => k23 q S' M' O') n6
theorem lb_split (hp : p + 6 ≤ nL) (hn : nL ≤ 3072) (h : Rl S M) : ∃ S' M' O', F_l_law_2128 nL xs k23 (nI p) S M O = k23 (nI (p + 6)) S' M' O' ∧ Rl S' M' := by
  have i1 : ib (nI p + 1) nL = true := ib_p (j := 1) hp hn (by decide)
  have i2 : ib (nI p + 2) nL = true := ib_p (j := 2) hp hn (by decide)
  have n6 : nI p + 6 = nI (p + 6) := nI_add p 6
  obtain ⟨k, O', b, M', a1, a2, a3, a4, a5⟩ := split_ok (O := O) h (xs (Int32.toNatClampNeg (nI p + 1))) (xs (Int32.toNatClampNeg (nI p + 2)))
  refine ⟨S, M', O', ?_, a5⟩
  unfold F_l_law_2128
  rw [ck_t i1, ck_t i2, a1, b2_s, ck_t i1, ck_t i2, a2, b2_s, show F_m_thrown M' = some (gi M' 1001) from rfl, b1_s, if_pos a3]
  by_cases q : k = 0
  · rw [if_pos q, if_pos (a4 q)]; exact congrArg (fun q => k23 q S M' O') n6
  · rw [if_neg q]; exact congrArg (fun q => k23 q S M' O') n6
theorem lb_round (hp : p + 6 ≤ nL) (hn : nL ≤ 3072) (h : Rl S M) : ∃ S' M' O', F_l_law_2195 nL xs k23 (nI p) S M O = k23 (nI (p + 6)) S' M' O' ∧ Rl S' M' := by
  have i1 : ib (nI p + 1) nL = true := ib_p (j := 1) hp hn (by decide)
  have n6 : nI p + 6 = nI (p + 6) := nI_add p 6
  obtain ⟨k, S', O', b, M', a1, a2, a3, a4, a5⟩ := round_ok (O := O) h (xs (Int32.toNatClampNeg (nI p + 1)))
  refine ⟨S', M', O', ?_, a5⟩
  unfold F_l_law_2195
  rw [ck_t i1, a1, b3_s, ck_t i1, a2, b2_s, show F_m_thrown M' = some (gi M' 1001) from rfl, b1_s, if_pos a3]
  by_cases q : k = 0
  · rw [if_pos q, if_pos (a4 q)]; exact congrArg (fun q => k23 q S' M' O') n6
  · rw [if_neg q]; exact congrArg (fun q => k23 q S' M' O') n6
theorem lb_fits (hp : p + 6 ≤ nL) (hn : nL ≤ 3072) (h : Rl S M) : ∃ S' M' O', F_l_law_2321 nL xs k23 (nI p) S M O = k23 (nI (p + 6)) S' M' O' ∧ Rl S' M' := by
  have i1 : ib (nI p + 1) nL = true := ib_p (j := 1) hp hn (by decide)
  have n6 : nI p + 6 = nI (p + 6) := nI_add p 6
  obtain ⟨k, S', O', b, M', a1, a2, a3, a4, a5⟩ := fits_ok (O := O) h (xs (Int32.toNatClampNeg (nI p + 1)))
  refine ⟨S', M', O', ?_, a5⟩
  unfold F_l_law_2321
  rw [ck_t i1, a1, b3_s, ck_t i1, a2, b2_s, show F_m_thrown M' = some (gi M' 1001) from rfl, b1_s, if_pos a3]
  by_cases q : k = 0
  · rw [if_pos q, if_pos (a4 q)]; exact congrArg (fun q => k23 q S' M' O') n6
  · rw [if_neg q]; exact congrArg (fun q => k23 q S' M' O') n6
theorem lb_fleets (ok : Ok_fleets) (hp : p + 6 ≤ nL) (hn : nL ≤ 3072) (h : Rl S M) : ∃ S' M' O', F_l_law_2377 nL xs k23 (nI p) S M O = k23 (nI (p + 6)) S' M' O' ∧ Rl S' M' := by
  have i1 : ib (nI p + 1) nL = true := ib_p (j := 1) hp hn (by decide)
  have n6 : nI p + 6 = nI (p + 6) := nI_add p 6
  obtain ⟨k, S', O', b, M', a1, a2, a3, a4, a5⟩ := ok (O := O) h (xs (Int32.toNatClampNeg (nI p + 1)))
  refine ⟨S', M', O', ?_, a5⟩
  unfold F_l_law_2377
  rw [ck_t i1, a1, b3_s, ck_t i1, a2, b2_s, show F_m_thrown M' = some (gi M' 1001) from rfl, b1_s, if_pos a3]
  by_cases q : k = 0
  · rw [if_pos q, if_pos (a4 q)]; exact congrArg (fun q => k23 q S' M' O') n6
  · rw [if_neg q]; exact congrArg (fun q => k23 q S' M' O') n6
theorem lb_days (hp : p + 6 ≤ nL) (hn : nL ≤ 3072) (h : Rl S M) : ∃ S' M' O', F_l_law_2433 nL xs k23 (nI p) S M O = k23 (nI (p + 6)) S' M' O' ∧ Rl S' M' := by
  have i1 : ib (nI p + 1) nL = true := ib_p (j := 1) hp hn (by decide)
  have i2 : ib (nI p + 2) nL = true := ib_p (j := 2) hp hn (by decide)
  have i3 : ib (nI p + 3) nL = true := ib_p (j := 3) hp hn (by decide)
  have n6 : nI p + 6 = nI (p + 6) := nI_add p 6
  obtain ⟨k, O', b, M', a1, a2, a3, a4, a5⟩ := days_ok (O := O) h (xs (Int32.toNatClampNeg (nI p + 1))) (xs (Int32.toNatClampNeg (nI p + 2))) (xs (Int32.toNatClampNeg (nI p + 3)))
  refine ⟨S, M', O', ?_, a5⟩
  unfold F_l_law_2433
  rw [ck_t i1, ck_t i2, ck_t i3, a1, b2_s, ck_t i1, ck_t i2, ck_t i3, a2, b2_s, show F_m_thrown M' = some (gi M' 1001) from rfl, b1_s, if_pos a3]
  by_cases q : k = 0
  · rw [if_pos q, if_pos (a4 q)]; exact congrArg (fun q => k23 q S M' O') n6
  · rw [if_neg q]; exact congrArg (fun q => k23 q S M' O') n6
theorem lb_sea (ok : Ok_sea) (hp : p + 6 ≤ nL) (hn : nL ≤ 3072) (h : Rl S M) : ∃ S' M' O', F_l_law_285 nL xs k23 (nI p) S M O = k23 (nI (p + 6)) S' M' O' ∧ Rl S' M' := by
  have i1 : ib (nI p + 1) nL = true := ib_p (j := 1) hp hn (by decide)
  have n6 : nI p + 6 = nI (p + 6) := nI_add p 6
  obtain ⟨k, S', O', b, M', a1, a2, a3, a4, a5⟩ := ok (O := O) h (xs (Int32.toNatClampNeg (nI p + 1)))
  refine ⟨S', M', O', ?_, a5⟩
  unfold F_l_law_285
  rw [ck_t i1, a1, b3_s, ck_t i1, a2, b2_s, show F_m_thrown M' = some (gi M' 1001) from rfl, b1_s, if_pos a3]
  by_cases q : k = 0
  · rw [if_pos q, if_pos (a4 q)]; exact congrArg (fun q => k23 q S' M' O') n6
  · rw [if_neg q]; exact congrArg (fun q => k23 q S' M' O') n6
theorem lb_feed (hp : p + 6 ≤ nL) (hn : nL ≤ 3072) (h : Rl S M) : ∃ S' M' O', F_l_law_212 nL xs k23 (nI p) S M O = k23 (nI (p + 6)) S' M' O' ∧ Rl S' M' := by
  have i1 : ib (nI p + 1) nL = true := ib_p (j := 1) hp hn (by decide)
  have i2 : ib (nI p + 2) nL = true := ib_p (j := 2) hp hn (by decide)
  have i3 : ib (nI p + 3) nL = true := ib_p (j := 3) hp hn (by decide)
  have i4 : ib (nI p + 4) nL = true := ib_p (j := 4) hp hn (by decide)
  have i5 : ib (nI p + 5) nL = true := ib_p (j := 5) hp hn (by decide)
  have n6 : nI p + 6 = nI (p + 6) := nI_add p 6
  obtain ⟨r, S', M', a1, a2, a3⟩ := feed_ok h (xs (Int32.toNatClampNeg (nI p + 1))) (xs (Int32.toNatClampNeg (nI p + 2))) (xs (Int32.toNatClampNeg (nI p + 3))) (xs (Int32.toNatClampNeg (nI p + 4))) (xs (Int32.toNatClampNeg (nI p + 5)))
  refine ⟨S', M', O, ?_, a3⟩
  unfold F_l_law_212
  rw [ck_t i1, ck_t i2, ck_t i3, ck_t i4, ck_t i5, a1, b2_s, ck_t i1, ck_t i2, ck_t i3, ck_t i4, ck_t i5, a2, b2_s, if_pos rfl]
  exact congrArg (fun q => k23 q S' M' O) n6
theorem lb_waters (hp : p + 6 ≤ nL) (hn : nL ≤ 3072) (h : Rl S M) : ∃ S' M' O', F_l_law_539 nL xs k23 (nI p) S M O = k23 (nI (p + 6)) S' M' O' ∧ Rl S' M' := by
  have i1 : ib (nI p + 1) nL = true := ib_p (j := 1) hp hn (by decide)
  have i2 : ib (nI p + 2) nL = true := ib_p (j := 2) hp hn (by decide)
  have i3 : ib (nI p + 3) nL = true := ib_p (j := 3) hp hn (by decide)
  have i4 : ib (nI p + 4) nL = true := ib_p (j := 4) hp hn (by decide)
  have n6 : nI p + 6 = nI (p + 6) := nI_add p 6
  obtain ⟨r, S', M', a1, a2, a3⟩ := waters_ok h (((xs (Int32.toNatClampNeg (nI p + 1))).toInt64 <<< (Int32.toInt64 32 &&& 63)) ||| ((xs (Int32.toNatClampNeg (nI p + 2))).toInt64 &&& 4294967295)) (((xs (Int32.toNatClampNeg (nI p + 3))).toInt64 <<< (Int32.toInt64 32 &&& 63)) ||| ((xs (Int32.toNatClampNeg (nI p + 4))).toInt64 &&& 4294967295))
  refine ⟨S', M', O, ?_, a3⟩
  unfold F_l_law_539
  rw [ck_t i1, ck_t i2, ck_t i3, ck_t i4, a1, b2_s, ck_t i1, ck_t i2, ck_t i3, ck_t i4, a2, b2_s, if_pos rfl]
  exact congrArg (fun q => k23 q S' M' O) n6
theorem lb_years (hp : p + 6 ≤ nL) (hn : nL ≤ 3072) (h : Rl S M) : ∃ S' M' O', F_l_law_731 nL xs k23 (nI p) S M O = k23 (nI (p + 6)) S' M' O' ∧ Rl S' M' := by
  have i1 : ib (nI p + 1) nL = true := ib_p (j := 1) hp hn (by decide)
  have n6 : nI p + 6 = nI (p + 6) := nI_add p 6
  obtain ⟨r, S', M', a1, a2, a3⟩ := years_ok h (xs (Int32.toNatClampNeg (nI p + 1)))
  refine ⟨S', M', O, ?_, a3⟩
  unfold F_l_law_731
  rw [ck_t i1, a1, b2_s, ck_t i1, a2, b2_s, if_pos rfl]
  exact congrArg (fun q => k23 q S' M' O) n6
theorem lb_undo (hp : p + 6 ≤ nL) (hn : nL ≤ 3072) (h : Rl S M) : ∃ S' M' O', F_l_law_756 nL xs k23 (nI p) S M O = k23 (nI (p + 6)) S' M' O' ∧ Rl S' M' := by
  have n6 : nI p + 6 = nI (p + 6) := nI_add p 6
  obtain ⟨r, S', M', a1, a2, a3⟩ := undo_ok h
  refine ⟨S', M', O, ?_, a3⟩
  unfold F_l_law_756
  rw [a1, b2_s, a2, b2_s, if_pos rfl]
  exact congrArg (fun q => k23 q S' M' O) n6
theorem lb_haul (ok : Ok_haul) (hp : p + 6 ≤ nL) (hn : nL ≤ 3072) (h : Rl S M) : ∃ S' M' O', F_l_law_1034 nL xs k23 (nI p) S M O = k23 (nI (p + 6)) S' M' O' ∧ Rl S' M' := by
  have n6 : nI p + 6 = nI (p + 6) := nI_add p 6
  obtain ⟨r, S', M', a1, a2, a3⟩ := ok h
  refine ⟨S', M', O, ?_, a3⟩
  unfold F_l_law_1034
  rw [a1, b2_s, a2, b2_s, if_pos rfl]
  exact congrArg (fun q => k23 q S' M' O) n6
theorem lb_fewest (hp : p + 6 ≤ nL) (hn : nL ≤ 3072) (h : Rl S M) : ∃ S' M' O', F_l_law_1398 nL xs k23 (nI p) S M O = k23 (nI (p + 6)) S' M' O' ∧ Rl S' M' := by
  have n6 : nI p + 6 = nI (p + 6) := nI_add p 6
  obtain ⟨r, S', M', a1, a2, a3⟩ := fewest_ok h
  refine ⟨S', M', O, ?_, a3⟩
  unfold F_l_law_1398
  rw [a1, b2_s, a2, b2_s, if_pos rfl]
  exact congrArg (fun q => k23 q S' M' O) n6
theorem lb_ends (hp : p + 6 ≤ nL) (hn : nL ≤ 3072) (h : Rl S M) : ∃ S' M' O', F_l_law_2251 nL xs k23 (nI p) S M O = k23 (nI (p + 6)) S' M' O' ∧ Rl S' M' := by
  have n6 : nI p + 6 = nI (p + 6) := nI_add p 6
  obtain ⟨r, S', M', a1, a2, a3⟩ := ends_ok h
  refine ⟨S', M', O, ?_, a3⟩
  unfold F_l_law_2251
  rw [a1, b2_s, a2, b2_s, if_pos rfl]
  exact congrArg (fun q => k23 q S' M' O) n6
theorem lb_see (hp : p + 6 ≤ nL) (hn : nL ≤ 3072) (h : Rl S M) : ∃ S' M' O', F_l_law_2264 nL xs k23 (nI p) S M O = k23 (nI (p + 6)) S' M' O' ∧ Rl S' M' := by
  have i1 : ib (nI p + 1) nL = true := ib_p (j := 1) hp hn (by decide)
  have i2 : ib (nI p + 2) nL = true := ib_p (j := 2) hp hn (by decide)
  have n6 : nI p + 6 = nI (p + 6) := nI_add p 6
  obtain ⟨r, S', M', a1, a2, a3⟩ := see_ok h (((xs (Int32.toNatClampNeg (nI p + 1))).toInt64 <<< (Int32.toInt64 32 &&& 63)) ||| ((xs (Int32.toNatClampNeg (nI p + 2))).toInt64 &&& 4294967295))
  refine ⟨S', M', O, ?_, a3⟩
  unfold F_l_law_2264
  rw [ck_t i1, ck_t i2, a1, b2_s, ck_t i1, ck_t i2, a2, b2_s, if_pos rfl]
  exact congrArg (fun q => k23 q S' M' O) n6
theorem lb_restore (hp : p + 6 ≤ nL) (hn : nL ≤ 3072) (h : Rl S M) : ∃ S' M' O', F_l_law_2524 nL xs k23 (nI p) S M O = k23 (nI (p + 6)) S' M' O' ∧ Rl S' M' := by
  have n6 : nI p + 6 = nI (p + 6) := nI_add p 6
  obtain ⟨r, S', M', a1, a2, a3⟩ := restore_ok h
  refine ⟨S', M', O, ?_, a3⟩
  unfold F_l_law_2524
  rw [a1, b2_s, a2, b2_s, if_pos rfl]
  exact congrArg (fun q => k23 q S' M' O) n6
theorem lb_fault (hp : p + 6 ≤ nL) (hn : nL ≤ 3072) (h : Rl S M) : ∃ S' M' O', F_l_law_341 nL xs k23 (nI p) S M O = k23 (nI (p + 6)) S' M' O' ∧ Rl S' M' := by
  have n6 : nI p + 6 = nI (p + 6) := nI_add p 6
  obtain ⟨r, M', a1, a2, a3⟩ := fault_ok h
  refine ⟨S, M', O, ?_, a3⟩
  unfold F_l_law_341
  rw [a1, b1_s, a2, b2_s, if_pos rfl]
  exact congrArg (fun q => k23 q S M' O) n6
theorem lb_forget (hp : p + 6 ≤ nL) (hn : nL ≤ 3072) (h : Rl S M) : ∃ S' M' O', F_l_law_1387 nL xs k23 (nI p) S M O = k23 (nI (p + 6)) S' M' O' ∧ Rl S' M' := by
  have n6 : nI p + 6 = nI (p + 6) := nI_add p 6
  obtain ⟨S', M', a1, a2, a3⟩ := forget_ok h
  refine ⟨S', M', O, ?_, a3⟩
  unfold F_l_law_1387
  rw [a1, b2_s, a2, b2_s]
  exact congrArg (fun q => k23 q S' M' O) n6
theorem lb_image (hp : p + 6 ≤ nL) (hn : nL ≤ 3072) (h : Rl S M) : ∃ S' M' O', F_l_law_2513 nL xs k23 (nI p) S M O = k23 (nI (p + 6)) S' M' O' ∧ Rl S' M' := by
  have n6 : nI p + 6 = nI (p + 6) := nI_add p 6
  obtain ⟨S', M', a1, a2, a3⟩ := image_ok h
  refine ⟨S', M', O, ?_, a3⟩
  unfold F_l_law_2513
  rw [a1, b2_s, a2, b2_s]
  exact congrArg (fun q => k23 q S' M' O) n6
theorem lb_pond (hp : p + 6 ≤ nL) (hn : nL ≤ 3072) (h : Rl S M) : ∃ S' M' O', F_l_law_476 nL xs k23 (nI p) S M O = k23 (nI (p + 6)) S' M' O' ∧ Rl S' M' := by
  have i1 : ib (nI p + 1) nL = true := ib_p (j := 1) hp hn (by decide)
  have n6 : nI p + 6 = nI (p + 6) := nI_add p 6
  obtain ⟨k, O', b, M', a1, a2, a3, a4, a5⟩ := pond_ok (O := O) h (xs (Int32.toNatClampNeg (nI p + 1)))
  refine ⟨S, M', O', ?_, a5⟩
  unfold F_l_law_476
  rw [ck_t i1, a1, b2_s, ck_t i1, a2, b2_s, show F_m_thrown M' = some (gi M' 1001) from rfl, b1_s, if_pos a3]
  unfold F_l_law_530
  by_cases q : k = 0
  · have a6 := a4 q
    rw [if_pos q]
    by_cases w : b = 0
    · rw [if_pos w] at a6
      rw [if_pos w, if_pos a6]; exact congrArg (fun q => k23 q S M' O') n6
    · rw [if_neg w] at a6
      rw [if_neg w, if_pos a6]; exact congrArg (fun q => k23 q S M' O') n6
  · rw [if_neg q]; exact congrArg (fun q => k23 q S M' O') n6
theorem lb_lower (hp : p + 6 ≤ nL) (hn : nL ≤ 3072) (h : Rl S M) : ∃ S' M' O', F_l_law_640 nL xs k23 (nI p) S M O = k23 (nI (p + 6)) S' M' O' ∧ Rl S' M' := by
  have i1 : ib (nI p + 1) nL = true := ib_p (j := 1) hp hn (by decide)
  have i2 : ib (nI p + 2) nL = true := ib_p (j := 2) hp hn (by decide)
  have n6 : nI p + 6 = nI (p + 6) := nI_add p 6
  by_cases w : (xs (Int32.toNatClampNeg (nI p + 2))) = 0
  · obtain ⟨k, S', O', b, M', a1, a2, a3, a4, a5⟩ := lower_ok (O := O) h (xs (Int32.toNatClampNeg (nI p + 1))) false
    refine ⟨S', M', O', ?_, a5⟩
    unfold F_l_law_640
    rw [ck_t i1, ck_t i2, if_pos w]
    unfold F_l_law_661
    rw [show F_l_lower (xs (Int32.toNatClampNeg (nI p + 1))) 0 S O = _ from a1, b3_s, ck_t i1, ck_t i2, if_pos w]
    unfold F_l_law_688
    rw [show F_m_lower (xs (Int32.toNatClampNeg (nI p + 1))) 0 M = _ from a2, b2_s, show F_m_thrown M' = some (gi M' 1001) from rfl, b1_s, if_pos a3]
    unfold F_l_law_722
    by_cases q : k = 0
    · have a6 := a4 q
      rw [if_pos q]
      by_cases v : b = 0
      · rw [if_pos v] at a6
        rw [if_pos v, if_pos a6]; exact congrArg (fun q => k23 q S' M' O') n6
      · rw [if_neg v] at a6
        rw [if_neg v, if_pos a6]; exact congrArg (fun q => k23 q S' M' O') n6
    · rw [if_neg q]; exact congrArg (fun q => k23 q S' M' O') n6
  · obtain ⟨k, S', O', b, M', a1, a2, a3, a4, a5⟩ := lower_ok (O := O) h (xs (Int32.toNatClampNeg (nI p + 1))) true
    refine ⟨S', M', O', ?_, a5⟩
    unfold F_l_law_640
    rw [ck_t i1, ck_t i2, if_neg w]
    unfold F_l_law_661
    rw [show F_l_lower (xs (Int32.toNatClampNeg (nI p + 1))) 1 S O = _ from a1, b3_s, ck_t i1, ck_t i2, if_neg w]
    unfold F_l_law_688
    rw [show F_m_lower (xs (Int32.toNatClampNeg (nI p + 1))) 1 M = _ from a2, b2_s, show F_m_thrown M' = some (gi M' 1001) from rfl, b1_s, if_pos a3]
    unfold F_l_law_722
    by_cases q : k = 0
    · have a6 := a4 q
      rw [if_pos q]
      by_cases v : b = 0
      · rw [if_pos v] at a6
        rw [if_pos v, if_pos a6]; exact congrArg (fun q => k23 q S' M' O') n6
      · rw [if_neg v] at a6
        rw [if_neg v, if_pos a6]; exact congrArg (fun q => k23 q S' M' O') n6
    · rw [if_neg q]; exact congrArg (fun q => k23 q S' M' O') n6
theorem lb_parts (hp : p + 6 ≤ nL) (hn : nL ≤ 3072) (h : Rl S M) : ∃ S' M' O', F_l_law_1535 nL xs k23 (nI p) S M O = k23 (nI (p + 6)) S' M' O' ∧ Rl S' M' := by
  have i1 : ib (nI p + 1) nL = true := ib_p (j := 1) hp hn (by decide)
  have i2 : ib (nI p + 2) nL = true := ib_p (j := 2) hp hn (by decide)
  have i3 : ib (nI p + 3) nL = true := ib_p (j := 3) hp hn (by decide)
  have n6 : nI p + 6 = nI (p + 6) := nI_add p 6
  by_cases w : (xs (Int32.toNatClampNeg (nI p + 3))) = 0
  · obtain ⟨k, S', O', b, M', a1, a2, a3, a4, a5⟩ := parts_ok (O := O) h (xs (Int32.toNatClampNeg (nI p + 1))) (xs (Int32.toNatClampNeg (nI p + 2))) false
    refine ⟨S', M', O', ?_, a5⟩
    unfold F_l_law_1535
    rw [ck_t i1, ck_t i2, ck_t i3, if_pos w]
    unfold F_l_law_1562
    rw [show F_l_parts (xs (Int32.toNatClampNeg (nI p + 1))) (xs (Int32.toNatClampNeg (nI p + 2))) 0 S O = _ from a1, b3_s, ck_t i1, ck_t i2, ck_t i3, if_pos w]
    unfold F_l_law_1595
    rw [show F_m_parts (xs (Int32.toNatClampNeg (nI p + 1))) (xs (Int32.toNatClampNeg (nI p + 2))) 0 M = _ from a2, b2_s, show F_m_thrown M' = some (gi M' 1001) from rfl, b1_s, if_pos a3]
    by_cases q : k = 0
    · rw [if_pos q, if_pos (a4 q)]; exact congrArg (fun q => k23 q S' M' O') n6
    · rw [if_neg q]; exact congrArg (fun q => k23 q S' M' O') n6
  · obtain ⟨k, S', O', b, M', a1, a2, a3, a4, a5⟩ := parts_ok (O := O) h (xs (Int32.toNatClampNeg (nI p + 1))) (xs (Int32.toNatClampNeg (nI p + 2))) true
    refine ⟨S', M', O', ?_, a5⟩
    unfold F_l_law_1535
    rw [ck_t i1, ck_t i2, ck_t i3, if_neg w]
    unfold F_l_law_1562
    rw [show F_l_parts (xs (Int32.toNatClampNeg (nI p + 1))) (xs (Int32.toNatClampNeg (nI p + 2))) 1 S O = _ from a1, b3_s, ck_t i1, ck_t i2, ck_t i3, if_neg w]
    unfold F_l_law_1595
    rw [show F_m_parts (xs (Int32.toNatClampNeg (nI p + 1))) (xs (Int32.toNatClampNeg (nI p + 2))) 1 M = _ from a2, b2_s, show F_m_thrown M' = some (gi M' 1001) from rfl, b1_s, if_pos a3]
    by_cases q : k = 0
    · rw [if_pos q, if_pos (a4 q)]; exact congrArg (fun q => k23 q S' M' O') n6
    · rw [if_neg q]; exact congrArg (fun q => k23 q S' M' O') n6
theorem lb_figures (hp : p + 6 ≤ nL) (hn : nL ≤ 3072) (h : Rl S M) : ∃ S' M' O', F_l_law_2001 nL xs k23 (nI p) S M O = k23 (nI (p + 6)) S' M' O' ∧ Rl S' M' := by
  have i1 : ib (nI p + 1) nL = true := ib_p (j := 1) hp hn (by decide)
  have i2 : ib (nI p + 2) nL = true := ib_p (j := 2) hp hn (by decide)
  have i3 : ib (nI p + 3) nL = true := ib_p (j := 3) hp hn (by decide)
  have i4 : ib (nI p + 4) nL = true := ib_p (j := 4) hp hn (by decide)
  have n6 : nI p + 6 = nI (p + 6) := nI_add p 6
  by_cases w : (xs (Int32.toNatClampNeg (nI p + 4))) = 0
  · obtain ⟨k, O', b, M', a1, a2, a3, a4, a5⟩ := figures_ok (O := O) h (((xs (Int32.toNatClampNeg (nI p + 1))).toInt64 <<< (Int32.toInt64 32 &&& 63)) ||| ((xs (Int32.toNatClampNeg (nI p + 2))).toInt64 &&& 4294967295)) (xs (Int32.toNatClampNeg (nI p + 3))) false
    refine ⟨S, M', O', ?_, a5⟩
    unfold F_l_law_2001
    rw [ck_t i1, ck_t i2, ck_t i3, ck_t i4, if_pos w]
    unfold F_l_law_2044
    rw [show F_l_figures (((xs (Int32.toNatClampNeg (nI p + 1))).toInt64 <<< (Int32.toInt64 32 &&& 63)) ||| ((xs (Int32.toNatClampNeg (nI p + 2))).toInt64 &&& 4294967295)) (xs (Int32.toNatClampNeg (nI p + 3))) 0 O = _ from a1, b2_s, ck_t i1, ck_t i2, ck_t i3, ck_t i4, if_pos w]
    unfold F_l_law_2093
    rw [show F_m_figures (((xs (Int32.toNatClampNeg (nI p + 1))).toInt64 <<< (Int32.toInt64 32 &&& 63)) ||| ((xs (Int32.toNatClampNeg (nI p + 2))).toInt64 &&& 4294967295)) (xs (Int32.toNatClampNeg (nI p + 3))) 0 M = _ from a2, b2_s, show F_m_thrown M' = some (gi M' 1001) from rfl, b1_s, if_pos a3]
    by_cases q : k = 0
    · rw [if_pos q, if_pos (a4 q)]; exact congrArg (fun q => k23 q S M' O') n6
    · rw [if_neg q]; exact congrArg (fun q => k23 q S M' O') n6
  · obtain ⟨k, O', b, M', a1, a2, a3, a4, a5⟩ := figures_ok (O := O) h (((xs (Int32.toNatClampNeg (nI p + 1))).toInt64 <<< (Int32.toInt64 32 &&& 63)) ||| ((xs (Int32.toNatClampNeg (nI p + 2))).toInt64 &&& 4294967295)) (xs (Int32.toNatClampNeg (nI p + 3))) true
    refine ⟨S, M', O', ?_, a5⟩
    unfold F_l_law_2001
    rw [ck_t i1, ck_t i2, ck_t i3, ck_t i4, if_neg w]
    unfold F_l_law_2044
    rw [show F_l_figures (((xs (Int32.toNatClampNeg (nI p + 1))).toInt64 <<< (Int32.toInt64 32 &&& 63)) ||| ((xs (Int32.toNatClampNeg (nI p + 2))).toInt64 &&& 4294967295)) (xs (Int32.toNatClampNeg (nI p + 3))) 1 O = _ from a1, b2_s, ck_t i1, ck_t i2, ck_t i3, ck_t i4, if_neg w]
    unfold F_l_law_2093
    rw [show F_m_figures (((xs (Int32.toNatClampNeg (nI p + 1))).toInt64 <<< (Int32.toInt64 32 &&& 63)) ||| ((xs (Int32.toNatClampNeg (nI p + 2))).toInt64 &&& 4294967295)) (xs (Int32.toNatClampNeg (nI p + 3))) 1 M = _ from a2, b2_s, show F_m_thrown M' = some (gi M' 1001) from rfl, b1_s, if_pos a3]
    by_cases q : k = 0
    · rw [if_pos q, if_pos (a4 q)]; exact congrArg (fun q => k23 q S M' O') n6
    · rw [if_neg q]; exact congrArg (fun q => k23 q S M' O') n6
theorem lb_wish (hp : p + 6 ≤ nL) (hn : nL ≤ 3072) (h : Rl S M) : ∃ S' M' O', F_l_law_1302 nL xs k23 (nI p) S M O = k23 (nI (p + 6)) S' M' O' ∧ Rl S' M' := by
  have i1 : ib (nI p + 1) nL = true := ib_p (j := 1) hp hn (by decide)
  have i2 : ib (nI p + 2) nL = true := ib_p (j := 2) hp hn (by decide)
  have i3 : ib (nI p + 3) nL = true := ib_p (j := 3) hp hn (by decide)
  have n6 : nI p + 6 = nI (p + 6) := nI_add p 6
  by_cases w : (xs (Int32.toNatClampNeg (nI p + 3))) = 0
  · obtain ⟨r, S', M', a1, a2, a3⟩ := wish_ok h (((xs (Int32.toNatClampNeg (nI p + 1))).toInt64 <<< (Int32.toInt64 32 &&& 63)) ||| ((xs (Int32.toNatClampNeg (nI p + 2))).toInt64 &&& 4294967295)) false
    refine ⟨S', M', O, ?_, a3⟩
    unfold F_l_law_1302
    rw [ck_t i1, ck_t i2, ck_t i3, if_pos w]
    unfold F_l_law_1339
    rw [show F_w_wish (((xs (Int32.toNatClampNeg (nI p + 1))).toInt64 <<< (Int32.toInt64 32 &&& 63)) ||| ((xs (Int32.toNatClampNeg (nI p + 2))).toInt64 &&& 4294967295)) 0 S = _ from a1, b2_s, ck_t i1, ck_t i2, ck_t i3, if_pos w]
    unfold F_l_law_1379
    rw [show F_m_wish (((xs (Int32.toNatClampNeg (nI p + 1))).toInt64 <<< (Int32.toInt64 32 &&& 63)) ||| ((xs (Int32.toNatClampNeg (nI p + 2))).toInt64 &&& 4294967295)) 0 M = _ from a2, b2_s, if_pos rfl]
    exact congrArg (fun q => k23 q S' M' O) n6
  · obtain ⟨r, S', M', a1, a2, a3⟩ := wish_ok h (((xs (Int32.toNatClampNeg (nI p + 1))).toInt64 <<< (Int32.toInt64 32 &&& 63)) ||| ((xs (Int32.toNatClampNeg (nI p + 2))).toInt64 &&& 4294967295)) true
    refine ⟨S', M', O, ?_, a3⟩
    unfold F_l_law_1302
    rw [ck_t i1, ck_t i2, ck_t i3, if_neg w]
    unfold F_l_law_1339
    rw [show F_w_wish (((xs (Int32.toNatClampNeg (nI p + 1))).toInt64 <<< (Int32.toInt64 32 &&& 63)) ||| ((xs (Int32.toNatClampNeg (nI p + 2))).toInt64 &&& 4294967295)) 1 S = _ from a1, b2_s, ck_t i1, ck_t i2, ck_t i3, if_neg w]
    unfold F_l_law_1379
    rw [show F_m_wish (((xs (Int32.toNatClampNeg (nI p + 1))).toInt64 <<< (Int32.toInt64 32 &&& 63)) ||| ((xs (Int32.toNatClampNeg (nI p + 2))).toInt64 &&& 4294967295)) 1 M = _ from a2, b2_s, if_pos rfl]
    exact congrArg (fun q => k23 q S' M' O) n6
end
theorem law_ok {nL : Nat} {xs : Nat → Int32} (hn : nL ≤ 3072) (o_sea : Ok_sea) (o_all : Ok_all) (o_some : Ok_some) (o_just : Ok_just) (o_haul : Ok_haul) (o_next : Ok_next) (o_place : Ok_place) (o_most : Ok_most) (o_find : Ok_find) (o_fleets : Ok_fleets) : ∀ (j n p : Nat) (S M O : Sto), nL < p + 6 * (j + 1) → p ≤ nL + 6 → j < n → Rl S M → ∃ S' M' O', F_l_law_23 nL xs n (nI p) S M O = some (1, S', M', O') := by
  have go : ∀ (n p : Nat) (S M O : Sto), p + 6 ≤ nL → Rl S M → ∃ S' M' O', F_l_law_23 nL xs (n + 1) (nI p) S M O = F_l_law_23 nL xs n (nI (p + 6)) S' M' O' ∧ Rl S' M' := by
    intro n p S M O hp h
    rw [F_l_law_23, if_neg (by rw [show nI nL - (6 : Int32) = nI (nL - 6) from sub_nI (a := nL) (b := 6) (by omega), lt_nI (by omega) (by omega)]; omega), ck_t (ib_nI (by omega) (by omega))]
    generalize (xs (Int32.toNatClampNeg (nI p)) &&& 63) = v
    by_cases q0 : v = 0
    · rw [if_pos q0]; exact lb_feed hp hn h
    rw [if_neg q0]
    by_cases q1 : v = 1
    · rw [if_pos q1]; exact lb_sea o_sea hp hn h
    rw [if_neg q1]
    by_cases q2 : v = 2
    · rw [if_pos q2]; exact lb_fault hp hn h
    rw [if_neg q2]
    by_cases q3 : v = 3
    · rw [if_pos q3]; exact lb_count hp hn h
    rw [if_neg q3]
    by_cases q4 : v = 4
    · rw [if_pos q4]; exact lb_net hp hn h
    rw [if_neg q4]
    by_cases q5 : v = 5
    · rw [if_pos q5]; exact lb_pond hp hn h
    rw [if_neg q5]
    by_cases q6 : v = 6
    · rw [if_pos q6]; exact lb_waters hp hn h
    rw [if_neg q6]
    by_cases q7 : v = 7
    · rw [if_pos q7]; exact lb_lower hp hn h
    rw [if_neg q7]
    by_cases q8 : v = 8
    · rw [if_pos q8]; exact lb_years hp hn h
    rw [if_neg q8]
    by_cases q9 : v = 9
    · rw [if_pos q9]; exact lb_undo hp hn h
    rw [if_neg q9]
    by_cases q10 : v = 10
    · rw [if_pos q10]; exact lb_nets hp hn h
    rw [if_neg q10]
    by_cases q11 : v = 11
    · rw [if_pos q11]; exact lb_all o_all hp hn h
    rw [if_neg q11]
    by_cases q12 : v = 12
    · rw [if_pos q12]; exact lb_some o_some hp hn h
    rw [if_neg q12]
    by_cases q13 : v = 13
    · rw [if_pos q13]; exact lb_just o_just hp hn h
    rw [if_neg q13]
    by_cases q14 : v = 14
    · rw [if_pos q14]; exact lb_haul o_haul hp hn h
    rw [if_neg q14]
    by_cases q15 : v = 15
    · rw [if_pos q15]; exact lb_next o_next hp hn h
    rw [if_neg q15]
    by_cases q16 : v = 16
    · rw [if_pos q16]; exact lb_place o_place hp hn h
    rw [if_neg q16]
    by_cases q17 : v = 17
    · rw [if_pos q17]; exact lb_most o_most hp hn h
    rw [if_neg q17]
    by_cases q18 : v = 18
    · rw [if_pos q18]; exact lb_wish hp hn h
    rw [if_neg q18]
    by_cases q19 : v = 19
    · rw [if_pos q19]; exact lb_forget hp hn h
    rw [if_neg q19]
    by_cases q20 : v = 20
    · rw [if_pos q20]; exact lb_fewest hp hn h
    rw [if_neg q20]
    by_cases q21 : v = 21
    · rw [if_pos q21]; exact lb_mesh hp hn h
    rw [if_neg q21]
    by_cases q22 : v = 22
    · rw [if_pos q22]; exact lb_find o_find hp hn h
    rw [if_neg q22]
    by_cases q23 : v = 23
    · rw [if_pos q23]; exact lb_parts hp hn h
    rw [if_neg q23]
    by_cases q24 : v = 24
    · rw [if_pos q24]; exact lb_divided hp hn h
    rw [if_neg q24]
    by_cases q25 : v = 25
    · rw [if_pos q25]; exact lb_primes hp hn h
    rw [if_neg q25]
    by_cases q26 : v = 26
    · rw [if_pos q26]; exact lb_prime hp hn h
    rw [if_neg q26]
    by_cases q27 : v = 27
    · rw [if_pos q27]; exact lb_shoal hp hn h
    rw [if_neg q27]
    by_cases q28 : v = 28
    · rw [if_pos q28]; exact lb_sums hp hn h
    rw [if_neg q28]
    by_cases q29 : v = 29
    · rw [if_pos q29]; exact lb_figures hp hn h
    rw [if_neg q29]
    by_cases q30 : v = 30
    · rw [if_pos q30]; exact lb_split hp hn h
    rw [if_neg q30]
    by_cases q31 : v = 31
    · rw [if_pos q31]; exact lb_round hp hn h
    rw [if_neg q31]
    by_cases q32 : v = 32
    · rw [if_pos q32]; exact lb_ends hp hn h
    rw [if_neg q32]
    by_cases q33 : v = 33
    · rw [if_pos q33]; exact lb_see hp hn h
    rw [if_neg q33]
    by_cases q34 : v = 34
    · rw [if_pos q34]; exact lb_fits hp hn h
    rw [if_neg q34]
    by_cases q35 : v = 35
    · rw [if_pos q35]; exact lb_fleets o_fleets hp hn h
    rw [if_neg q35]
    by_cases q36 : v = 36
    · rw [if_pos q36]; exact lb_days hp hn h
    rw [if_neg q36]
    by_cases q37 : v = 37
    · rw [if_pos q37]; exact lb_image hp hn h
    rw [if_neg q37]
    by_cases q38 : v = 38
    · rw [if_pos q38]; exact lb_restore hp hn h
    rw [if_neg q38]
    exact ⟨S, M, O, congrArg (fun q => F_l_law_23 nL xs n q S M O) (nI_add p 6), h⟩
  have stop : ∀ (n p : Nat) (S M O : Sto), nL < p + 6 → p ≤ nL + 6 → F_l_law_23 nL xs (n + 1) (nI p) S M O = some (1, S, M, O) := by
    intro n p S M O hp hp2
    rw [F_l_law_23, if_pos]
    rw [nI_z, nI_z, show (6 : Int32) = zI 6 from rfl, sub_zI, lt_zI (by omega) (by omega) (by omega) (by omega)]
    omega
  intro j
  induction j with
  | zero =>
    intro n p S M O hp hp2 hn h
    obtain ⟨n, rfl⟩ : ∃ q, n = q + 1 := ⟨n - 1, by omega⟩
    exact ⟨S, M, O, stop n p S M O (by omega) hp2⟩
  | succ j ih =>
    intro n p S M O hp hp2 hn h
    obtain ⟨n, rfl⟩ : ∃ q, n = q + 1 := ⟨n - 1, by omega⟩
    by_cases q : p + 6 ≤ nL
    · obtain ⟨S1, M1, O1, e1, e2⟩ := go n p S M O q h
      obtain ⟨S2, M2, O2, e3⟩ := ih n (p + 6) S1 M1 O1 (by omega) (by omega) (by omega) e2
      exact ⟨S2, M2, O2, e1.trans e3⟩
    · exact ⟨S, M, O, stop n p S M O (by omega) hp2⟩
