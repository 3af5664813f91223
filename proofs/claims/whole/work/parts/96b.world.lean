/-! ===== the world of the system, by its positions ===== -/
def kAd (g9 g10 : Nat → Nat) (out b : Nat) (tad : Nat → Nat) : Nat → Nat := fun k => if k < 45 then g9 k else if k < 58 then g9 (k + 32) else if k < 332 then g9 (k - 255) else if k < 2000 then g10 (k - 1000) else if k = 2000 then out else if k = 2500 then b else tad k
theorem kAd_w {g9 g10 : Nat → Nat} {out b : Nat} {tad : Nat → Nat} {j : Nat} (h : j < 32) : g9 (45 + j) = kAd g9 g10 out b tad (300 + j) := by
  unfold kAd
  rw [if_neg (show ¬ 300 + j < 45 by omega), if_neg (show ¬ 300 + j < 58 by omega), if_pos (show 300 + j < 332 by omega), show 300 + j - 255 = 45 + j by omega]
theorem kAd_t {g9 g10 : Nat → Nat} {out b : Nat} {tad : Nat → Nat} {k : Nat} (h : 3000 ≤ k) : kAd g9 g10 out b tad k = tad k := by
  unfold kAd
  rw [if_neg (show ¬ k < 45 by omega), if_neg (show ¬ k < 58 by omega), if_neg (show ¬ k < 332 by omega), if_neg (show ¬ k < 2000 by omega), if_neg (show ¬ k = 2000 by omega), if_neg (show ¬ k = 2500 by omega)]
def kIs : List Nat := [0, 1, 2, 3, 4, 5, 6, 7, 8, 9, 10, 11, 12, 13, 14, 15, 16, 17, 18, 19, 20, 21, 22, 23, 24, 25, 26, 27, 28, 29, 30, 31, 32, 33, 34, 35, 36, 37, 38, 39, 40, 41, 42, 43, 44, 77, 78, 79, 80, 81, 82, 83, 84, 85, 86, 87, 88, 89, 45, 46, 47, 48, 49, 50, 51, 52, 53, 54, 55, 56, 57, 58, 59, 60, 61, 62, 63, 64, 65, 66, 67, 68, 69, 70, 71, 72, 73, 74, 75, 76, 90, 91, 92, 93, 94, 95, 96, 97, 98, 99, 100, 101, 102, 103, 104, 105, 106, 107, 108, 109, 110, 111, 112, 113, 114, 115, 116, 117, 118, 119, 120, 121, 122, 123]
section Wld
variable {D : va_G} {cT : List (ClassId × FieldType)} {g9 g10 tad : Nat → Nat} {out b : Nat} {H : Heap} {A : Nat → Prop}
/-- the world as it comes out of the constructors, with the rows of cells named by positions -/
def kWe (cT : List (ClassId × FieldType)) (g9 g10 : Nat → Nat) (out : Nat) (tad ad : Nat → Nat) : va_W :=
  let w0 : va_W := (([] ++ w_9 cT g9) ++ w_10 tad cT g10) ++ [(out, .inl (cid cT 2, 1, .inr (.inl fun _ => 0)))]
  let w1 : va_W := w0.set 44 (g9 44, .inl (cid cT 3, 32, .inr (.inr (.inr (.inr fun j => some (ad (300 + j)))))))
  let w2 : va_W := w1.set 91 (g10 1, .inl (cid cT 4, 5, .inr (.inr (.inr (.inr fun j => some (ad (3000 + j)))))))
  w2.set 92 (g10 2, .inl (cid cT 4, 7, .inr (.inr (.inr (.inr fun j => some (ad (3005 + j)))))))
theorem kWe_P (hP : va_P D kCl ((([] ++ w_9 cT g9) ++ w_10 tad cT g10) ++ [(out, .inl (cid cT 2, 1, .inr (.inl fun _ => 0)))]) H) : va_P D kCl (kWe cT g9 g10 out tad (kAd g9 g10 out b tad)) H := by
  have h1 := va_P_q (i := 44) (f' := fun j => some (kAd g9 g10 out b tad (300 + j))) hP rfl (fun j hj => congrArg some (kAd_w hj))
  have h2 := va_P_q (i := 91) (f' := fun j => some (kAd g9 g10 out b tad (3000 + j))) h1 rfl (fun j _ => congrArg some (kAd_t (show 3000 ≤ 3000 + j by omega)).symm)
  have h3 := va_P_q (i := 92) (f' := fun j => some (kAd g9 g10 out b tad (3005 + j))) h2 rfl (fun j _ => congrArg some (kAd_t (show 3000 ≤ 3005 + j by omega)).symm)
  exact h3
theorem kWe_D (hD : va_D A ((([] ++ w_9 cT g9) ++ w_10 tad cT g10) ++ [(out, .inl (cid cT 2, 1, .inr (.inl fun _ => 0)))])) : va_D A (kWe cT g9 g10 out tad (kAd g9 g10 out b tad)) := by
  have h1 := va_D_q (i := 44) (e' := .inl (cid cT 3, 32, .inr (.inr (.inr (.inr (fun j => some (kAd g9 g10 out b tad (300 + j)))))))) hD rfl
  have h2 := va_D_q (i := 91) (e' := .inl (cid cT 4, 5, .inr (.inr (.inr (.inr (fun j => some (kAd g9 g10 out b tad (3000 + j)))))))) h1 rfl
  have h3 := va_D_q (i := 92) (e' := .inl (cid cT 4, 7, .inr (.inr (.inr (.inr (fun j => some (kAd g9 g10 out b tad (3005 + j)))))))) h2 rfl
  exact h3
set_option maxRecDepth 1000000 in
set_option maxHeartbeats 20000000 in
theorem kWe_is (cT : List (ClassId × FieldType)) (g9 g10 : Nat → Nat) (out b : Nat) (tad : Nat → Nat) : kIs.map (fun i => (kWe cT g9 g10 out tad (kAd g9 g10 out b tad))[i]?) = (wsO kSh kPos cT (kAd g9 g10 out b tad) (kS0, kM0, kO0)).map some := rfl
end Wld
