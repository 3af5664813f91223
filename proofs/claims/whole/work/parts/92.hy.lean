/-! ===== positions, shapes and addresses of the system ===== -/
theorem cond_f {α : Type} {b : Bool} {x y : α} (h : b = false) : (bif b then x else y) = y := by rw [h]; rfl
theorem nblt_f {k c : Nat} (h : c ≤ k) : Nat.blt k c = false := by
  cases hb : Nat.blt k c with
  | false => rfl
  | true =>
    have := Nat.le_of_ble_eq_true hb
    omega
theorem nbeq_f {k c : Nat} (h : c < k) : Nat.beq k c = false := by
  cases hb : Nat.beq k c with
  | false => rfl
  | true =>
    have := Nat.eq_of_beq_eq_true hb
    omega
theorem kSh_hi {k : Nat} (h : 3020 ≤ k) : kSh k = none :=
  (cond_f (nblt_f (show 314 ≤ k by omega))).trans ((cond_f (nblt_f (show 1018 ≤ k by omega))).trans ((cond_f (nblt_f (show 3001 ≤ k by omega))).trans ((cond_f (nblt_f (show 3010 ≤ k by omega))).trans ((cond_f (nblt_f (show 3015 ≤ k by omega))).trans ((cond_f (nblt_f (show 3017 ≤ k by omega))).trans ((cond_f (nblt_f (show 3018 ≤ k by omega))).trans ((cond_f (nblt_f (show 3019 ≤ k by omega))).trans (cond_f (nbeq_f (show 3019 < k by omega)))))))))) 
def ownL : List (Nat × Nat × Nat × Nat) := [(0, 50, 0, 11), (0, 7, 1, 2), (0, 8, 1, 3), (0, 9, 1, 4), (0, 10, 1, 5), (0, 11, 1, 6), (0, 12, 1, 7), (0, 13, 1, 8), (0, 14, 1, 9), (0, 15, 1, 10), (0, 16, 1, 11), (0, 17, 1, 12), (0, 18, 1, 13), (0, 4, 3, 6), (0, 5, 3, 7), (1, 6, 3, 8), (0, 1, 9, 2), (0, 2, 9, 3), (0, 3, 9, 4), (0, 22, 12, 6), (0, 23, 12, 7), (1, 24, 12, 8), (0, 19, 18, 2), (0, 20, 18, 3), (0, 21, 18, 4), (0, 25, 21, 5), (1, 26, 27, 7), (1, 27, 27, 8), (0, 28, 27, 9), (1, 29, 27, 10), (0, 30, 27, 11), (0, 31, 27, 12), (0, 32, 27, 13), (0, 33, 27, 14), (1, 34, 35, 7), (1, 35, 35, 8), (0, 36, 35, 9), (1, 37, 35, 10), (0, 38, 35, 11), (0, 39, 35, 12), (0, 40, 35, 13), (0, 41, 35, 14), (0, 42, 43, 3), (0, 43, 43, 4), (0, 44, 47, 2), (0, 45, 47, 3), (0, 46, 47, 4), (0, 47, 50, 2), (3, 48, 53, 0), (3, 49, 53, 1), (0, 1001, 1000, 2), (1, 1002, 1000, 11), (0, 1003, 1000, 13), (0, 1004, 1000, 14), (0, 1005, 1000, 15), (0, 1006, 1000, 16), (0, 1007, 1000, 17), (0, 1008, 1000, 18), (0, 1009, 1000, 19), (0, 1010, 1000, 20), (0, 1011, 1000, 21), (0, 1012, 1000, 22), (1, 1013, 1000, 23), (1, 1014, 1000, 24), (1, 1015, 1000, 25), (0, 1016, 1000, 26), (0, 1017, 1000, 27), (0, 1018, 1000, 28), (0, 1019, 1000, 29), (0, 1020, 1000, 30), (0, 1021, 1000, 31), (1, 1022, 1000, 36), (1, 1023, 1000, 37), (1, 1024, 1000, 38), (1, 1025, 1000, 39), (0, 1026, 1000, 40), (0, 1027, 1000, 47), (0, 1028, 1000, 51), (0, 1029, 1000, 54), (0, 1030, 1000, 55), (0, 1031, 1000, 56), (0, 1032, 1000, 57), (0, 1033, 1000, 58)]
def kOwn (c key : Nat) : Option (Nat × Nat) := (ownL.find? (fun q => Nat.beq q.1 c && Nat.beq q.2.1 key)).map (fun q => q.2.2)
def owB (k : Nat) : Nat → List (Nat × Nat) → Bool
  | _, [] => true
  | b, q :: fs => (Nat.beq q.1 2 || decide (kOwn (kcl q.1) q.2 = some (k, b))) && owB k (b + 1) fs
def fdB (T : u_T) : Nat → List (Nat × Nat) → Bool
  | _, [] => true
  | b, q :: fs => ((bif Nat.beq q.1 0 then decide ((T b).2.2.1 = "I") else true) && (bif Nat.beq q.1 1 then decide ((T b).2.2.1 = "J") else true) && (bif Nat.beq q.1 3 then decide ((T b).2.2.1 = "[J") else true) && (bif Nat.beq q.1 4 then decide ((T b).2.2.1 = "Z") else true)) && fdB T (b + 1) fs
def clB (k : Nat) (q : Nat × Nat × List (Nat × Nat)) : Bool := match kCl[q.2.1]? with
  | some c => fdB c.2.1 0 q.2.2 && owB k 0 q.2.2
  | none => false
def hyB (k : Nat) : Bool := match kSh k with
  | some q => (Nat.ble 6 q.1 || kPos.any (Nat.beq k)) && ((bif Nat.beq q.1 7 then Nat.beq k 2500 else true) && (bif Nat.beq q.1 0 then clB k q else true))
  | none => true
theorem and_b {a b : Bool} (h : (a && b) = true) : a = true ∧ b = true := by
  cases a with
  | false => cases h
  | true => exact ⟨rfl, h⟩
theorem or_b {a b : Bool} (h : (a || b) = true) : a = true ∨ b = true := by
  cases a with
  | false => exact Or.inr h
  | true => exact Or.inl rfl
theorem hyB_all : (List.range 3020).all hyB = true := by decide +kernel
theorem hyB_at (k : Nat) : hyB k = true := by
  by_cases h : k < 3020
  · exact List.all_eq_true.mp hyB_all k (List.mem_range.mpr h)
  · have h2 := kSh_hi (k := k) (by omega)
    simp only [hyB, h2]
theorem kPos_nd : kPos.Nodup := by decide +kernel
theorem owB_at (k : Nat) : ∀ (fs : List (Nat × Nat)) (b0 : Nat), owB k b0 fs = true → ∀ b kd key, fs[b]? = some (kd, key) → kd ≠ 2 → kOwn (kcl kd) key = some (k, b0 + b) := by
  intro fs
  induction fs with
  | nil => intro b0 _ b kd key h; cases h
  | cons q fs ih =>
    intro b0 h b kd key hb hk
    unfold owB at h
    obtain ⟨h1, hr⟩ := and_b h
    cases b with
    | zero =>
      cases hb
      cases or_b h1 with
      | inl h2 => exact absurd (Nat.eq_of_beq_eq_true h2) hk
      | inr h2 => exact of_decide_eq_true h2
    | succ b =>
      have h3 := ih (b0 + 1) hr b kd key hb hk
      rw [h3]
      congr 2
      omega
theorem cnd_t {c d : Bool} (h : (bif c then d else true) = true) (hc : c = true) : d = true := by
  rw [hc] at h
  exact h
theorem pfd_I : parseFieldDescriptor "I" = some .int := by decide +kernel
theorem pfd_J : parseFieldDescriptor "J" = some .long := by decide +kernel
theorem pfd_JJ : parseFieldDescriptor "[J" = some (.array .long) := by decide +kernel
theorem pfd_Z : parseFieldDescriptor "Z" = some .boolean := by decide +kernel
theorem fdB_at (T : u_T) : ∀ (fs : List (Nat × Nat)) (b0 : Nat), fdB T b0 fs = true → ∀ b kd key, fs[b]? = some (kd, key) → (kd = 0 → parseFieldDescriptor (T (b0 + b)).2.2.1 = some .int) ∧ (kd = 1 → parseFieldDescriptor (T (b0 + b)).2.2.1 = some .long) ∧ (kd = 3 → parseFieldDescriptor (T (b0 + b)).2.2.1 = some (.array .long)) ∧ (kd = 4 → parseFieldDescriptor (T (b0 + b)).2.2.1 = some .boolean) := by
  intro fs
  induction fs with
  | nil => intro b0 _ b kd key h; cases h
  | cons q fs ih =>
    intro b0 h b kd key hb
    unfold fdB at h
    obtain ⟨ha, hr⟩ := and_b h
    obtain ⟨hb1, h4⟩ := and_b ha
    obtain ⟨hb2, h3⟩ := and_b hb1
    obtain ⟨h0, h1⟩ := and_b hb2
    cases b with
    | zero =>
      cases hb
      refine ⟨fun e => ?_, fun e => ?_, fun e => ?_, fun e => ?_⟩
      · have := of_decide_eq_true (cnd_t h0 (by rw [e]; rfl))
        rw [Nat.add_zero, this]
        exact pfd_I
      · have := of_decide_eq_true (cnd_t h1 (by rw [e]; rfl))
        rw [Nat.add_zero, this]
        exact pfd_J
      · have := of_decide_eq_true (cnd_t h3 (by rw [e]; rfl))
        rw [Nat.add_zero, this]
        exact pfd_JJ
      · have := of_decide_eq_true (cnd_t h4 (by rw [e]; rfl))
        rw [Nat.add_zero, this]
        exact pfd_Z
    | succ b =>
      have h5 := ih (b0 + 1) hr b kd key hb
      rw [show b0 + 1 + b = b0 + (b + 1) by omega] at h5
      exact h5
theorem kCls {k ci : Nat} {fs : List (Nat × Nat)} (h : kSh k = some (0, ci, fs)) : ∃ C T N, kCl[ci]? = some (C, T, N) ∧ fdB T 0 fs = true ∧ owB k 0 fs = true := by
  have hB := hyB_at k
  unfold hyB at hB
  rw [h] at hB
  dsimp only at hB
  have h1 : clB k (0, ci, fs) = true := by
    have := (and_b hB).2
    exact (and_b this).2
  unfold clB at h1
  cases hc : kCl[ci]? with
  | none =>
    have h2 : (match kCl[ci]? with | some c => fdB c.2.1 0 fs && owB k 0 fs | none => false) = true := h1
    rw [hc] at h2
    exact absurd h2 (by decide : ¬ (false = true))
  | some c =>
    have h2 : (match kCl[ci]? with | some c => fdB c.2.1 0 fs && owB k 0 fs | none => false) = true := h1
    rw [hc] at h2
    have h3 := and_b h2
    exact ⟨c.1, c.2.1, c.2.2, rfl, h3.1, h3.2⟩
theorem kHY {sc : Sct} {cT : List (ClassId × FieldType)} {ad : Nat → Nat} {Hb : Heap} {XT : State → Prop} (hinj : ∀ i j, i ∈ kPos → j ∈ kPos → ad i = ad j → i = j) (hlo : ∀ k, k ∈ kPos → Hb.size ≤ ad k)
    (hcT : cT.map Prod.snd = [.int, .boolean, .long, .array .int, .object "java/lang/String"]) (h7 : ad 2500 < Hb.size ∧ ∀ U, XT U → va_X (ad 2500) sc.1 sc.2.1 U Hb) (hsc : sc.1 < 2 ^ 31) : HY kSh sc kPos kCl cT ad Hb XT := by
  refine ⟨fun k q hk hq => ?_, kPos_nd, hinj, hlo, hcT, fun k ci fs hk => ?_, fun k ci fs k' ci' fs' b b' kd kd' key hk hk' hb hb' h2 h2' hkc => ?_, fun k q hk => ?_, hsc⟩
  · have hB := hyB_at k
    unfold hyB at hB
    rw [hk] at hB
    dsimp only at hB
    have h1 := (and_b hB).1
    cases or_b h1 with
    | inl h => exact absurd (Nat.le_of_ble_eq_true h) (by omega)
    | inr h =>
      obtain ⟨x, hx, he⟩ := List.any_eq_true.mp h
      rw [Nat.eq_of_beq_eq_true he]
      exact hx
  · obtain ⟨C, T, N, h1, h2, _⟩ := kCls hk
    refine ⟨C, T, N, h1, fun b kd key hb => ?_⟩
    have := fdB_at T fs 0 h2 b kd key hb
    rw [Nat.zero_add] at this
    exact this
  · obtain ⟨_, _, _, _, _, h1⟩ := kCls hk
    obtain ⟨_, _, _, _, _, h3⟩ := kCls hk'
    have e1 := owB_at k fs 0 h1 b kd key hb h2
    have e2 := owB_at k' fs' 0 h3 b' kd' key hb' h2'
    rw [hkc, e2] at e1
    have e3 := Option.some.inj e1
    have e4 := congrArg Prod.snd e3
    exact ⟨(congrArg Prod.fst e3).symm, by dsimp only at e4; omega⟩
  · have hB := hyB_at k
    unfold hyB at hB
    rw [hk] at hB
    dsimp only at hB
    have h1 := (and_b hB).2
    have h3 := (and_b h1).1
    have h4 : k = 2500 := Nat.eq_of_beq_eq_true h3
    rw [h4]
    exact h7
