/-! ===== licences by sums ===== -/
theorem sm_comm (g : Nat → Nat → Nat) (n : Nat) : ∀ m, fb_sm (fun r => fb_sm (g r) n) m = fb_sm (fun f => fb_sm (fun r => g r f) m) n
  | 0 => by
    have : ∀ n, fb_sm (fun f => fb_sm (fun r => g r f) 0) n = 0 := by
      intro n
      induction n with
      | zero => rfl
      | succ n ih => rw [fb_sm_succ, ih]; rfl
    rw [this]; rfl
  | m + 1 => by
    rw [fb_sm_succ, sm_comm g n m, ← fb_sm_add]
    exact fb_sm_cong (fun k _ => (fb_sm_succ (fun r => g r k) m).symm)
theorem sm_zero {f : Nat → Nat} : ∀ {n : Nat}, (∀ k, k < n → f k = 0) → fb_sm f n = 0
  | 0, _ => rfl
  | n + 1, h => by rw [fb_sm_succ, sm_zero (fun k hk => h k (by omega)), h n (by omega)]
theorem sm_one (g : Nat → Nat) {r0 : Nat} : ∀ {m : Nat}, r0 < m → fb_sm (fun r => if r = r0 then g r else 0) m = g r0
  | 0, h => absurd h (Nat.not_lt_zero _)
  | m + 1, h => by
    rw [fb_sm_succ]
    by_cases q : m = r0
    · rw [if_pos q, sm_zero (fun k hk => by rw [if_neg (by omega)]), Nat.zero_add, q]
    · rw [if_neg q, sm_one g (by omega), Nat.add_zero]
theorem sm_mul (c : Nat) (f : Nat → Nat) : ∀ n, fb_sm (fun k => c * f k) n = c * fb_sm f n
  | 0 => (Nat.mul_zero c).symm
  | n + 1 => by rw [fb_sm_succ, fb_sm_succ, sm_mul c f n, Nat.mul_add]
theorem sm_mulr (c : Nat) (f : Nat → Nat) : ∀ n, fb_sm (fun k => f k * c) n = fb_sm f n * c
  | 0 => (Nat.zero_mul c).symm
  | n + 1 => by rw [fb_sm_succ, fb_sm_succ, sm_mulr c f n, Nat.add_mul]
/-- one figure more: what a row becomes -/
def dsF (m : Nat) (L : Nat → Nat) (u s f : Nat) : Nat := if (s + f) % m = u then L s else 0
def dsP (m : Nat) (L : Nat → Nat) (R F u : Nat) : Nat := fb_sm (fun s => fb_sm (dsF m L u s) 10) R + fb_sm (dsF m L u R) F
def DS (m : Nat) (L : Nat → Nat) (u : Nat) : Nat := fb_sm (fun s => fb_sm (dsF m L u s) 10) m
theorem dsP_0 (m : Nat) (L : Nat → Nat) (R u : Nat) : dsP m L R 10 u = dsP m L (R + 1) 0 u := by
  unfold dsP
  rw [fb_sm_succ]
  rfl
theorem dsP_s (m : Nat) (L : Nat → Nat) (R F u : Nat) : dsP m L R (F + 1) u = dsP m L R F u + (if (R + F) % m = u then L R else 0) := by
  unfold dsP
  rw [fb_sm_succ, Nat.add_assoc]
  rfl
theorem DS_e (m : Nat) (L : Nat → Nat) (u : Nat) : dsP m L m 0 u = DS m L u := rfl
def tS (m : Nat) : Nat → Nat → Nat
  | 0 => fun u => if u = 0 then 1 else 0
  | k + 1 => DS m (tS m k)
theorem md_eq {m r u f : Nat} (hm : 0 < m) (hr : r < m) (hu : u < m) (hf : f < 10) : ((r + f) % m = u) = (r = (u + 10 * m - f) % m) := by
  have hM : ((u + 10 * m - f : Nat) : Int) = (u : Int) + 10 * m - f := by omega
  refine propext ⟨fun h => ?_, fun h => ?_⟩
  · have e1 : ((r : Int) + f) % m = u := by exact_mod_cast h
    have e2 : (((u + 10 * m - f : Nat) : Int)) % m = r := by
      rw [hM, ← e1]
      have : (((r : Int) + f) % m + 10 * m - f) = (r : Int) + m * (10 - (r + f) / m) := by
        have := Int.mul_ediv_add_emod ((r : Int) + f) m
        have h3 : (m : Int) * (10 - ((r : Int) + f) / m) = 10 * m - m * (((r : Int) + f) / m) := by rw [Int.mul_sub, Int.mul_comm (m : Int) 10]
        rw [h3]; omega
      rw [this, Int.add_mul_emod_self_left]
      exact Int.emod_eq_of_lt (by omega) (by omega)
    have : ((((u + 10 * m - f) % m : Nat)) : Int) = r := by rw [Int.natCast_emod]; exact e2
    omega
  · have e2 : (((u + 10 * m - f : Nat) : Int)) % m = r := by rw [← Int.natCast_emod, ← h]
    have e1 : ((r : Int) + f) % m = u := by
      rw [← e2, hM]
      have : ((((u : Int) + 10 * m - f) % m) + f) = (u : Int) + m * (10 - (u + 10 * m - f) / m) := by
        have := Int.mul_ediv_add_emod ((u : Int) + 10 * m - f) m
        have h3 : (m : Int) * (10 - ((u : Int) + 10 * m - f) / m) = 10 * m - m * (((u : Int) + 10 * m - f) / m) := by rw [Int.mul_sub, Int.mul_comm (m : Int) 10]
        rw [h3]; omega
      rw [this, Int.add_mul_emod_self_left]
      exact Int.emod_eq_of_lt (by omega) (by omega)
    have : ((((r + f) % m : Nat)) : Int) = u := by rw [Int.natCast_emod, Int.natCast_add]; exact e1
    omega
theorem tS_s {m k v : Nat} (hm : 0 < m) (hv : v < m) : tS m (k + 1) v = fb_sm (fun f => tS m k ((v + 10 * m - f) % m)) 10 := by
  show DS m (tS m k) v = _
  unfold DS
  rw [sm_comm]
  refine fb_sm_cong (fun f hf => ?_)
  rw [fb_sm_cong (g := fun r => if r = (v + 10 * m - f) % m then tS m k r else 0) (fun r hr => ?_)]
  · exact sm_one (tS m k) (Nat.mod_lt _ hm)
  · unfold dsF
    have e := md_eq hm hr hv hf
    by_cases q : (r + f) % m = v
    · rw [if_pos q, if_pos (e ▸ q)]
    · rw [if_neg q, if_neg (fun h => q (by rw [e]; exact h))]
def cvl (m : Nat) (L : Nat → Nat) (k t : Nat) : Nat := fb_sm (fun s => L s * tS m k ((t + m - s) % m)) m
theorem sh_eq {m t s f : Nat} (hm : 0 < m) (ht : t < m) (hs : s < m) (hf : f < 10) : (t + m - (s + f) % m) % m = ((t + m - s) % m + 10 * m - f) % m := by
  have h1 : (s + f) % m < m := Nat.mod_lt _ hm
  have h2 : (t + m - s) % m < m := Nat.mod_lt _ hm
  have a1 := Nat.div_add_mod (s + f) m
  have a2 := Nat.div_add_mod (t + m - s) m
  generalize (s + f) % m = x at h1 a1 ⊢
  generalize (t + m - s) % m = y at h2 a2 ⊢
  generalize (s + f) / m = p at a1
  generalize (t + m - s) / m = q at a2
  have hq : q ≤ 1 := by
    refine Nat.not_lt.mp (fun r => ?_)
    have : m * 2 ≤ m * q := Nat.mul_le_mul_left m r
    omega
  have hp : p ≤ 10 := by
    refine Nat.not_lt.mp (fun r => ?_)
    have : m * 11 ≤ m * p := Nat.mul_le_mul_left m r
    omega
  have e1 : (y + 10 * m - f) + m * p + m * q = (t + m - x) + m * 10 := by omega
  have e2 : ((y + 10 * m - f) + m * p + m * q) % m = (y + 10 * m - f) % m := by
    rw [Nat.add_assoc, ← Nat.mul_add, Nat.add_mul_mod_self_left]
  rw [← e2, e1, Nat.add_mul_mod_self_left]
theorem cv_DS {m : Nat} {L : Nat → Nat} {k t : Nat} (hm : 0 < m) (ht : t < m) : cvl m (DS m L) k t = cvl m L (k + 1) t := by
  unfold cvl
  have e1 : fb_sm (fun u => DS m L u * tS m k ((t + m - u) % m)) m = fb_sm (fun u => fb_sm (fun s => fb_sm (fun f => dsF m L u s f * tS m k ((t + m - u) % m)) 10) m) m := by
    refine fb_sm_cong (fun u hu => ?_)
    unfold DS
    rw [← sm_mulr]
    refine fb_sm_cong (fun s hs => ?_)
    rw [← sm_mulr]
  rw [e1, sm_comm]
  refine fb_sm_cong (fun s hs => ?_)
  rw [sm_comm, tS_s hm (Nat.mod_lt _ hm), ← sm_mul]
  refine fb_sm_cong (fun f hf => ?_)
  have e2 : fb_sm (fun u => dsF m L u s f * tS m k ((t + m - u) % m)) m = fb_sm (fun u => if u = (s + f) % m then L s * tS m k ((t + m - u) % m) else 0) m := by
    refine fb_sm_cong (fun u hu => ?_)
    unfold dsF
    by_cases q : u = (s + f) % m
    · rw [if_pos q, if_pos q.symm]
    · rw [if_neg q, if_neg (fun h => q h.symm), Nat.zero_mul]
  rw [e2, sm_one (fun u => L s * tS m k ((t + m - u) % m)) (Nat.mod_lt _ hm), sh_eq hm ht hs hf]
def Ee (m own d u : Nat) : Nat := fb_sm (fun x => if (own + x) % m = u then 1 else 0) d
theorem cv_step {m : Nat} {L : Nat → Nat} {k t own d : Nat} (hm : 0 < m) (ht : t < m) : cvl m (fun u => DS m L u + Ee m own d u) k t = cvl m L (k + 1) t + fb_sm (fun x => tS m k ((t + m - (own + x) % m) % m)) d := by
  rw [← cv_DS hm ht]
  unfold cvl
  have e1 : fb_sm (fun s => (DS m L s + Ee m own d s) * tS m k ((t + m - s) % m)) m = fb_sm (fun s => DS m L s * tS m k ((t + m - s) % m) + Ee m own d s * tS m k ((t + m - s) % m)) m := fb_sm_cong (fun s _ => Nat.add_mul _ _ _)
  rw [e1, fb_sm_add]
  congr 1
  have e2 : fb_sm (fun s => Ee m own d s * tS m k ((t + m - s) % m)) m = fb_sm (fun s => fb_sm (fun x => (if (own + x) % m = s then 1 else 0) * tS m k ((t + m - s) % m)) d) m := fb_sm_cong (fun s _ => (sm_mulr _ _ _).symm)
  rw [e2, sm_comm]
  refine fb_sm_cong (fun x hx => ?_)
  have e3 : fb_sm (fun s => (if (own + x) % m = s then 1 else 0) * tS m k ((t + m - s) % m)) m = fb_sm (fun s => if s = (own + x) % m then tS m k ((t + m - s) % m) else 0) m := by
    refine fb_sm_cong (fun s _ => ?_)
    by_cases q : s = (own + x) % m
    · rw [if_pos q, if_pos q.symm, Nat.one_mul]
    · rw [if_neg q, if_neg (fun h => q h.symm), Nat.zero_mul]
  rw [e3, sm_one (fun s => tS m k ((t + m - s) % m)) (Nat.mod_lt _ hm)]
theorem cv_0 {m : Nat} {L : Nat → Nat} {t : Nat} (hm : 0 < m) (ht : t < m) : cvl m L 0 t = L t := by
  unfold cvl
  have e : fb_sm (fun s => L s * tS m 0 ((t + m - s) % m)) m = fb_sm (fun s => if s = t then L s else 0) m := by
    refine fb_sm_cong (fun s hs => ?_)
    have h0 : ∀ u, tS m 0 u = if u = 0 then 1 else 0 := fun _ => rfl
    rw [h0]
    by_cases q : s = t
    · rw [if_pos q, q, Nat.add_sub_cancel_left, Nat.mod_self, if_pos rfl, Nat.mul_one]
    · rw [if_neg q, if_neg, Nat.mul_zero]
      intro h
      by_cases w : s < t
      · rw [show t + m - s = (t - s) + m by omega, Nat.add_mod_right, Nat.mod_eq_of_lt (by omega)] at h
        omega
      · rw [Nat.mod_eq_of_lt (by omega)] at h
        omega
  rw [e, sm_one L ht]
/-- what both tell, with K figures left -/
def FS (n m t : Nat) : Nat → Nat → Nat
  | _, 0 => 0
  | own, k + 1 => fb_sm (fun x => tS m k ((t + m - (own + x) % m) % m)) (dg n k) + FS n m t (own + dg n k) k
def OW (n : Nat) : Nat → Nat → Nat
  | own, 0 => own
  | own, k + 1 => OW n (own + dg n k) k
theorem OW_le (n : Nat) : ∀ (k own : Nat), OW n own k ≤ own + 10 * k
  | 0, own => Nat.le_refl _
  | k + 1, own => by
    have h1 := OW_le n k (own + dg n k)
    have h2 := dg_lt n k
    show OW n (own + dg n k) k ≤ _
    omega
theorem FS_lead {n m t D own : Nat} (h : n < 10 ^ D) : ∀ j, FS n m t own (D + j) = FS n m t own D ∧ OW n own (D + j) = OW n own D
  | 0 => ⟨rfl, rfl⟩
  | j + 1 => by
    have h0 : dg n (D + j) = 0 := by
      unfold dg
      rw [Nat.div_eq_of_lt (Nat.lt_of_lt_of_le h (Nat.pow_le_pow_right (by decide) (by omega)))]
    obtain ⟨i1, i2⟩ := FS_lead (n := n) (m := m) (t := t) (own := own) h j
    refine ⟨?_, ?_⟩
    · show fb_sm (fun x => tS m (D + j) ((t + m - (own + x) % m) % m)) (dg n (D + j)) + FS n m t (own + dg n (D + j)) (D + j) = _
      rw [h0, Nat.add_zero, i1]
      exact Nat.zero_add _
    · show OW n (own + dg n (D + j)) (D + j) = _
      rw [h0, Nat.add_zero, i2]
