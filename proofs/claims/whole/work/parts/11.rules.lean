section Rules
variable {sh : Shp} {sc : Sct} {M : List MI}
theorem fin_no {mi : MI} {pc : Nat} {st : List Value} {r : Res} (h : ifin mi pc st = some r) (L : Lo) (σ : St3) : istep sh sc mi pc L st σ = none := by
  unfold ifin at h
  unfold istep
  cases hc : mi.code pc with
  | none => rfl
  | some ent =>
    rw [hc] at h
    obtain ⟨ins, len, a, b, v⟩ := ent
    cases ins with
    | ireturn => rfl
    | lreturn => rfl
    | return_ => rfl
    | new i => rfl
    | _ => dsimp only at h; cases h
theorem call_no {mi : MI} {pc : Nat} {st : List Value} {q : Nat × Nat × List Value × List Value} (h : icall mi pc st = some q) (L : Lo) (σ : St3) : istep sh sc mi pc L st σ = none ∧ ifin mi pc st = none := by
  unfold icall at h
  unfold istep ifin
  cases hc : mi.code pc with
  | none => exact ⟨rfl, rfl⟩
  | some ent =>
    rw [hc] at h
    obtain ⟨ins, len, a, b, v⟩ := ent
    cases ins with
    | invokestatic i => exact ⟨rfl, rfl⟩
    | invokevirtual i => exact ⟨rfl, rfl⟩
    | _ => dsimp only at h; cases v <;> cases h
theorem exec_mono : ∀ (n n2 d d2 : Nat) (mi : MI) (pc : Nat) (L L2 : Lo) (st : List Value) (σ : St3) (x : Res × St3 × Nat), exec sh sc M n d mi pc L st σ = some x → n ≤ n2 → d ≤ d2 → Le L L2 → exec sh sc M n2 d2 mi pc L2 st σ = some x := by
  intro n
  induction n with
  | zero => intro n2 d d2 mi pc L L2 st σ x h; cases h
  | succ n ih =>
    intro n2 d d2 mi pc L L2 st σ x h hn hd hL
    obtain ⟨n2, rfl⟩ : ∃ k, n2 = k + 1 := ⟨n2 - 1, by omega⟩
    have hn' : n ≤ n2 := by omega
    unfold exec at h ⊢
    cases hi : istep sh sc mi pc L st σ with
    | some q =>
      rw [hi] at h
      obtain ⟨pc', L', st', σ'⟩ := q
      obtain ⟨L2', h2, hL'⟩ := istep_le hL hi
      rw [h2]
      exact ih n2 d d2 mi pc' L' L2' st' σ' x h hn' hd hL'
    | none =>
      rw [hi] at h
      dsimp only at h
      cases hf : ifin mi pc st with
      | some r0 =>
        rw [hf] at h
        rw [fin_no hf]
        dsimp only
        cases r0 with
        | inl v => exact h
        | inr a =>
          dsimp only at h ⊢
          obtain ⟨h1, h2⟩ := bif_at h
          rw [Nat.ble_eq_true_of_le (Nat.le_trans (Nat.le_of_ble_eq_true h1) hd)]
          rw [h2]
          rfl
      | none =>
        rw [hf] at h
        dsimp only at h
        cases hc : icall mi pc st with
        | none => rw [hc] at h; cases h
        | some q =>
          rw [hc] at h
          rw [(call_no (sh := sh) (sc := sc) hc L2 σ).1]
          dsimp only
          obtain ⟨kind, y, as, rest⟩ := q
          cases d with
          | zero => cases h
          | succ d' =>
            obtain ⟨d2', rfl⟩ : ∃ k, d2 = k + 1 := ⟨d2 - 1, by omega⟩
            have hd' : d' ≤ d2' := by omega
            dsimp only at h ⊢
            cases hb : ibuilt sh sc kind as with
            | some v =>
              rw [hb] at h
              dsimp only at h ⊢
              cases h4 : Nat.ble 4 d' with
              | false => rw [h4] at h; cases h
              | true =>
                rw [h4] at h
                rw [Nat.ble_eq_true_of_le (Nat.le_trans (Nat.le_of_ble_eq_true h4) hd')]
                exact ih n2 (d' + 1) (d2' + 1) mi (pc + 3) L L2 (v :: rest) σ x h hn' hd hL
            | none =>
              rw [hb] at h
              dsimp only at h ⊢
              cases hm : M[y]? with
              | none => rw [hm] at h; cases h
              | some my =>
                rw [hm] at h
                dsimp only at h ⊢
                cases hcond : (Nat.ble (entL as).length my.maxL && (rcvOk sh my as && Nat.ble kind 4)) with
                | false => rw [hcond] at h; cases h
                | true =>
                  rw [hcond] at h
                  dsimp only [cond_true] at h ⊢
                  cases hex : exec sh sc M n d' my 0 (ent my.maxL as) [] σ with
                  | none => rw [hex] at h; cases h
                  | some q1 =>
                    rw [hex] at h
                    rw [ih n2 d' d2' my 0 _ _ [] σ q1 hex hn' hd' (Le.refl _)]
                    obtain ⟨r1, σ1, k1⟩ := q1
                    cases r1 with
                    | inl v =>
                      dsimp only at h ⊢
                      cases hex2 : exec sh sc M n (d' + 1) mi (pc + 3) L (v.toList ++ rest) σ1 with
                      | none => rw [hex2] at h; cases h
                      | some q2 =>
                        rw [hex2] at h
                        rw [ih n2 (d' + 1) (d2' + 1) mi (pc + 3) L L2 _ σ1 q2 hex2 hn' hd hL]
                        exact h
                    | inr a =>
                      dsimp only at h ⊢
                      cases hk : Nat.beq kind 3 with
                      | false => rw [hk] at h; cases h
                      | true =>
                        rw [hk] at h
                        dsimp only [cond_true] at h ⊢
                        cases hh : mi.hnd pc a with
                        | none => rw [hh] at h; cases h
                        | some q3 =>
                          rw [hh] at h
                          obtain ⟨pc', i⟩ := q3
                          dsimp only at h ⊢
                          cases hex2 : exec sh sc M n (d' + 1) mi pc' ((kil i L).set i none) [] σ1 with
                          | none => rw [hex2] at h; cases h
                          | some q2 =>
                            rw [hex2] at h
                            rw [ih n2 (d' + 1) (d2' + 1) mi pc' _ _ _ σ1 q2 hex2 hn' hd (hL.kil i)]
                            exact h
variable (sh sc M)
/-- a run to an end with at most K exceptions made, calls no deeper than d -/
def Ex (K : Nat) (mi : MI) (d pc : Nat) (L : Lo) (st : List Value) (σ : St3) (r : Res) (σ' : St3) : Prop := ∃ n k, k ≤ K ∧ exec sh sc M n d mi pc L st σ = some (r, σ', k)
def isteps : Nat → MI → Nat → Lo → List Value → St3 → Option Cfg
  | 0, _, pc, L, st, σ => some (pc, L, st, σ)
  | k + 1, mi, pc, L, st, σ => match istep sh sc mi pc L st σ with
    | some (pc', L', st', σ') => isteps k mi pc' L' st' σ'
    | none => none
variable {sh sc M}
theorem Ex_step {K : Nat} {mi : MI} {d pc pc' : Nat} {L L' : Lo} {st st' : List Value} {σ σ' σ2 : St3} {r : Res} (h : istep sh sc mi pc L st σ = some (pc', L', st', σ')) (hk : Ex sh sc M K mi d pc' L' st' σ' r σ2) : Ex sh sc M K mi d pc L st σ r σ2 := by
  obtain ⟨n, k, h1, h2⟩ := hk
  refine ⟨n + 1, k, h1, ?_⟩
  unfold exec
  rw [h]
  exact h2
theorem Ex_go {K : Nat} {mi : MI} {d : Nat} {σ2 : St3} {r : Res} (k : Nat) : ∀ {pc pc' : Nat} {L L' : Lo} {st st' : List Value} {σ σ' : St3}, isteps sh sc k mi pc L st σ = some (pc', L', st', σ') → Ex sh sc M K mi d pc' L' st' σ' r σ2 → Ex sh sc M K mi d pc L st σ r σ2 := by
  induction k with
  | zero => intro pc pc' L L' st st' σ σ' h hk; cases h; exact hk
  | succ k ih =>
    intro pc pc' L L' st st' σ σ' h hk
    unfold isteps at h
    cases hi : istep sh sc mi pc L st σ with
    | none => rw [hi] at h; cases h
    | some q =>
      rw [hi] at h
      obtain ⟨a, b, c, e⟩ := q
      exact Ex_step hi (ih h hk)
theorem Ex_chk {K : Nat} {mi : MI} {d pc pc' : Nat} {L L' : Lo} {st st' : List Value} {σ σ' σ2 : St3} {r : Res} {b : Bool} (h : istep sh sc mi pc L st σ = (bif b then some (pc', L', st', σ') else none)) (hb : b = true) (hk : Ex sh sc M K mi d pc' L' st' σ' r σ2) : Ex sh sc M K mi d pc L st σ r σ2 := by
  rw [hb] at h
  exact Ex_step h hk
theorem Ex_br {K : Nat} {mi : MI} {d a b : Nat} {c : Prop} [Decidable c] {L : Lo} {st : List Value} {σ σ2 : St3} {r : Res} (h1 : c → Ex sh sc M K mi d a L st σ r σ2) (h2 : ¬ c → Ex sh sc M K mi d b L st σ r σ2) : Ex sh sc M K mi d (if c then a else b) L st σ r σ2 := by
  by_cases h : c
  · rw [if_pos h]; exact h1 h
  · rw [if_neg h]; exact h2 h
theorem Ex_brI {K : Nat} {mi : MI} {d a b : Nat} {c c2 : Prop} [Decidable c] {L : Lo} {st : List Value} {σ σ2 : St3} {r : Res} (hc : c ↔ c2) (h1 : c2 → Ex sh sc M K mi d a L st σ r σ2) (h2 : ¬ c2 → Ex sh sc M K mi d b L st σ r σ2) : Ex sh sc M K mi d (if c then a else b) L st σ r σ2 :=
  Ex_br (fun h => h1 (hc.mp h)) (fun h => h2 (fun q => h (hc.mpr q)))
theorem Ex_fin {K : Nat} {mi : MI} {d pc : Nat} {L : Lo} {st : List Value} {σ : St3} {v : Option Value} (h : ifin mi pc st = some (.inl v)) : Ex sh sc M K mi d pc L st σ (.inl v) σ := by
  refine ⟨1, 0, Nat.zero_le _, ?_⟩
  unfold exec
  rw [fin_no h, h]
theorem Ex_finZ {K : Nat} {mi : MI} {d pc : Nat} {L : Lo} {st : List Value} {σ : St3} {v : Option Value} {b : Bool} (h : ifin mi pc st = (bif b then some (.inl v) else none)) (hb : b = true) : Ex sh sc M K mi d pc L st σ (.inl v) σ := Ex_fin (by rw [h, hb]; rfl)
theorem Ex_thr {K : Nat} {mi : MI} {d pc : Nat} {L : Lo} {st : List Value} {σ : St3} {a : Nat} (h : ifin mi pc st = some (.inr a)) (hd : 8 ≤ d) (hK : 1 ≤ K) : Ex sh sc M K mi d pc L st σ (.inr a) σ := by
  refine ⟨1, 1, hK, ?_⟩
  unfold exec
  rw [fin_no h, h]
  dsimp only
  rw [Nat.ble_eq_true_of_le hd]
  rfl
theorem Ex_mono {K K2 : Nat} {mi : MI} {d d2 pc : Nat} {L L2 : Lo} {st : List Value} {σ σ2 : St3} {r : Res} (hL : Le L L2) (h : Ex sh sc M K mi d pc L st σ r σ2) (hd : d ≤ d2) (hK : K ≤ K2) : Ex sh sc M K2 mi d2 pc L2 st σ r σ2 := by
  obtain ⟨n, k, h1, h2⟩ := h
  exact ⟨n, k, Nat.le_trans h1 hK, exec_mono n n d d2 mi pc L L2 st σ _ h2 (Nat.le_refl _) hd hL⟩
theorem Ex_callK {K K1 K2 : Nat} {mi my : MI} {d d' pc kind y : Nat} {L L0 : Lo} {st as rest : List Value} {σ σ1 σ2 : St3} {v : Option Value} {r : Res} (hc : icall mi pc st = some (kind, y, as, rest)) (hb : ibuilt sh sc kind as = none) (hm : M[y]? = some my) (hk : (Nat.ble (entL as).length my.maxL && (rcvOk sh my as && Nat.ble kind 4)) = true) (hL : ent my.maxL as = L0) (hd : d' < d)
    (hX : Ex sh sc M K1 my d' 0 L0 [] σ (.inl v) σ1) (hr : Ex sh sc M K2 mi d (pc + 3) L (v.toList ++ rest) σ1 r σ2) (hK : K1 + K2 ≤ K) : Ex sh sc M K mi d pc L st σ r σ2 := by
  obtain ⟨n1, k1, a1, b1⟩ := hX
  obtain ⟨n2, k2, a2, b2⟩ := hr
  obtain ⟨e, rfl⟩ : ∃ e, d = e + 1 := ⟨d - 1, by omega⟩
  subst hL
  have c1 := exec_mono n1 (max n1 n2) d' e my 0 _ _ [] σ _ b1 (Nat.le_max_left _ _) (by omega) (Le.refl _)
  have c2 := exec_mono n2 (max n1 n2) (e + 1) (e + 1) mi (pc + 3) L L _ σ1 _ b2 (Nat.le_max_right _ _) (Nat.le_refl _) (Le.refl _)
  refine ⟨max n1 n2 + 1, k1 + k2, by omega, ?_⟩
  unfold exec
  obtain ⟨i1, i2⟩ := call_no (sh := sh) (sc := sc) hc L σ
  rw [i1, i2, hc]
  dsimp only
  rw [hb, hm]
  dsimp only
  rw [hk, c1]
  dsimp only [cond_true]
  rw [c2]
theorem Ex_call {mi my : MI} {d d' pc kind y : Nat} {L L0 : Lo} {st as rest : List Value} {σ σ1 σ2 : St3} {v : Option Value} {r : Res} (hc : icall mi pc st = some (kind, y, as, rest)) (hb : ibuilt sh sc kind as = none) (hm : M[y]? = some my) (hk : (Nat.ble (entL as).length my.maxL && (rcvOk sh my as && Nat.ble kind 4)) = true) (hL : ent my.maxL as = L0) (hd : d' < d)
    (hX : Ex sh sc M 0 my d' 0 L0 [] σ (.inl v) σ1) (hr : Ex sh sc M 0 mi d (pc + 3) L (v.toList ++ rest) σ1 r σ2) : Ex sh sc M 0 mi d pc L st σ r σ2 := Ex_callK hc hb hm hk hL hd hX hr (Nat.le_refl _)
theorem Ex_callX {K K1 K2 : Nat} {mi my : MI} {d d' pc pc' i y x : Nat} {L L0 : Lo} {st as rest : List Value} {σ σ1 σ2 : St3} {r : Res} (hc : icall mi pc st = some (3, y, as, rest)) (hb : ibuilt sh sc 3 as = none) (hm : M[y]? = some my) (hk : (Nat.ble (entL as).length my.maxL && (rcvOk sh my as && Nat.ble 3 4)) = true) (hL : ent my.maxL as = L0) (hd : d' < d)
    (hX : Ex sh sc M K1 my d' 0 L0 [] σ (.inr x) σ1) (hh : mi.hnd pc x = some (pc', i)) (hr : Ex sh sc M K2 mi d pc' ((kil i L).set i none) [] σ1 r σ2) (hK : K1 + K2 ≤ K) : Ex sh sc M K mi d pc L st σ r σ2 := by
  obtain ⟨n1, k1, a1, b1⟩ := hX
  obtain ⟨n2, k2, a2, b2⟩ := hr
  obtain ⟨e, rfl⟩ : ∃ e, d = e + 1 := ⟨d - 1, by omega⟩
  subst hL
  have c1 := exec_mono n1 (max n1 n2) d' e my 0 _ _ [] σ _ b1 (Nat.le_max_left _ _) (by omega) (Le.refl _)
  have c2 := exec_mono n2 (max n1 n2) (e + 1) (e + 1) mi pc' _ _ _ σ1 _ b2 (Nat.le_max_right _ _) (Nat.le_refl _) (Le.refl _)
  refine ⟨max n1 n2 + 1, k1 + k2, by omega, ?_⟩
  unfold exec
  obtain ⟨i1, i2⟩ := call_no (sh := sh) (sc := sc) hc L σ
  rw [i1, i2, hc]
  dsimp only
  rw [hb, hm]
  dsimp only
  rw [hk, c1]
  dsimp only [cond_true]
  rw [show Nat.beq 3 3 = true from rfl]
  dsimp only [cond_true]
  rw [hh]
  dsimp only
  rw [c2]
theorem Ex_blt {K : Nat} {mi : MI} {d pc kind y : Nat} {L : Lo} {st as rest : List Value} {σ σ2 : St3} {v : Value} {r : Res} (hc : icall mi pc st = some (kind, y, as, rest)) (hb : ibuilt sh sc kind as = some v) (hd : 5 ≤ d) (hr : Ex sh sc M K mi d (pc + 3) L (v :: rest) σ r σ2) : Ex sh sc M K mi d pc L st σ r σ2 := by
  obtain ⟨n2, k2, a2, b2⟩ := hr
  obtain ⟨e, rfl⟩ : ∃ e, d = e + 1 := ⟨d - 1, by omega⟩
  refine ⟨n2 + 1, k2, a2, ?_⟩
  unfold exec
  obtain ⟨i1, i2⟩ := call_no (sh := sh) (sc := sc) hc L σ
  rw [i1, i2, hc]
  dsimp only
  rw [hb]
  dsimp only
  rw [Nat.ble_eq_true_of_le (by omega : 4 ≤ e)]
  exact b2
/-! compares of longs -/
theorem lc_eq {x y : Int64} : lg_cmp x y = 0 ↔ x = y := by
  unfold lg_cmp
  by_cases h1 : y < x
  · rw [if_pos h1]; exact ⟨fun h => absurd h (by decide), fun h => absurd (h ▸ h1) Int64.lt_irrefl⟩
  · rw [if_neg h1]
    by_cases h2 : x = y
    · rw [if_pos h2]; exact ⟨fun _ => h2, fun _ => rfl⟩
    · rw [if_neg h2]; exact ⟨fun h => absurd h (by decide), fun h => absurd h h2⟩
theorem lc_ne {x y : Int64} : ¬ lg_cmp x y = 0 ↔ ¬ x = y := not_congr lc_eq
theorem lc_gt {x y : Int64} : 0 < lg_cmp x y ↔ y < x := by
  unfold lg_cmp
  by_cases h1 : y < x
  · rw [if_pos h1]; exact ⟨fun _ => h1, fun _ => by decide⟩
  · rw [if_neg h1]
    by_cases h2 : x = y
    · rw [if_pos h2]; exact ⟨fun h => absurd h (by decide), fun h => absurd h h1⟩
    · rw [if_neg h2]; exact ⟨fun h => absurd h (by decide), fun h => absurd h h1⟩
theorem lc_le {x y : Int64} : lg_cmp x y ≤ 0 ↔ x ≤ y := by
  rw [← Int32.not_lt, ← Int64.not_lt]
  exact not_congr lc_gt
theorem lc_lt {x y : Int64} : lg_cmp x y < 0 ↔ x < y := by
  unfold lg_cmp
  by_cases h1 : y < x
  · rw [if_pos h1]; exact ⟨fun h => absurd h (by decide), fun h => absurd h1 (Int64.not_lt.mpr (Int64.le_of_lt h))⟩
  · rw [if_neg h1]
    by_cases h2 : x = y
    · rw [if_pos h2]; exact ⟨fun h => absurd h (by decide), fun h => by subst h2; exact absurd h Int64.lt_irrefl⟩
    · rw [if_neg h2]
      refine ⟨fun _ => ?_, fun _ => by decide⟩
      rcases Int64.lt_or_eq_of_le (Int64.not_lt.mp h1) with q | q
      · exact q
      · exact absurd q h2
theorem lc_ge {x y : Int64} : 0 ≤ lg_cmp x y ↔ y ≤ x := by
  rw [← Int32.not_lt, ← Int64.not_lt]
  exact not_congr lc_lt
/-! how the functions are written -/
def ck {α : Type} (b : Bool) (x : Option α) : Option α := bif b then x else none
def b1 {α β : Type} (o : Option α) (f : α → Option β) : Option β := match o with
  | some a => f a
  | none => none
def b2 {α β : Type} (o : Option (α × Sto)) (f : α → Sto → Option β) : Option β := match o with
  | some (a, s) => f a s
  | none => none
def b3 {α β : Type} (o : Option (α × Sto × Sto)) (f : α → Sto → Sto → Option β) : Option β := match o with
  | some (a, s, t) => f a s t
  | none => none
def su {α β : Type} (o : α ⊕ Nat) (f : α → Option β) (g : Nat → Option β) : Option β := match o with
  | .inl a => f a
  | .inr a => g a
theorem ck_t {α : Type} {b : Bool} {x : Option α} (h : b = true) : ck b x = x := by rw [h]; rfl
theorem ck_i {α : Type} {b : Bool} {x : Option α} {y : α} (h : ck b x = some y) : b = true ∧ x = some y := by
  cases b with
  | false => cases h
  | true => exact ⟨rfl, h⟩
theorem b1_s {α β : Type} {a : α} {f : α → Option β} : b1 (some a) f = f a := rfl
theorem b2_s {α β : Type} {a : α} {s : Sto} {f : α → Sto → Option β} : b2 (some (a, s)) f = f a s := rfl
theorem b3_s {α β : Type} {a : α} {s t : Sto} {f : α → Sto → Sto → Option β} : b3 (some (a, s, t)) f = f a s t := rfl
theorem su_l {α β : Type} {a : α} {f : α → Option β} {g : Nat → Option β} : su (.inl a) f g = f a := rfl
theorem su_r {α β : Type} {a : Nat} {f : α → Option β} {g : Nat → Option β} : su (.inr a) f g = g a := rfl
theorem b1_i {α β : Type} {o : Option α} {f : α → Option β} {y : β} (h : b1 o f = some y) : ∃ a, o = some a ∧ f a = some y := by
  cases o with
  | none => cases h
  | some a => exact ⟨a, rfl, h⟩
theorem b2_i {α β : Type} {o : Option (α × Sto)} {f : α → Sto → Option β} {y : β} (h : b2 o f = some y) : ∃ a s, o = some (a, s) ∧ f a s = some y := by
  cases o with
  | none => cases h
  | some a => exact ⟨a.1, a.2, rfl, h⟩
theorem b3_i {α β : Type} {o : Option (α × Sto × Sto)} {f : α → Sto → Sto → Option β} {y : β} (h : b3 o f = some y) : ∃ a s t, o = some (a, s, t) ∧ f a s t = some y := by
  cases o with
  | none => cases h
  | some a => exact ⟨a.1, a.2.1, a.2.2, rfl, h⟩
def nm {α β : Type} (e : α) (f : α → Option β) : Option β := f e
theorem nm_i {α β : Type} {e : α} {f : α → Option β} {y : β} (h : nm e f = some y) : ∃ t, t = e ∧ f t = some y := ⟨e, rfl, h⟩
def mxI (x y : Int32) : Int32 := if x < y then y else x
def mnI (x y : Int32) : Int32 := if y < x then y else x
def mxL (x y : Int64) : Int64 := if y < x then x else y
def mnL (x y : Int64) : Int64 := if y < x then y else x
theorem Ex_st {K : Nat} {mi : MI} {d pc : Nat} {L : Lo} {st st2 : List Value} {σ σ2 : St3} {r : Res} (h : st = st2) (hk : Ex sh sc M K mi d pc L st2 σ r σ2) : Ex sh sc M K mi d pc L st σ r σ2 := h ▸ hk
theorem Ex_L {K : Nat} {mi : MI} {d pc : Nat} {L L2 : Lo} {st : List Value} {σ σ2 : St3} {r : Res} (h : L = L2) (hk : Ex sh sc M K mi d pc L2 st σ r σ2) : Ex sh sc M K mi d pc L st σ r σ2 := h ▸ hk
theorem Ex_brN {K : Nat} {mi : MI} {d a b : Nat} {c : Prop} [Decidable c] {L : Lo} {st : List Value} {σ σ2 : St3} {r : Res} (h1 : c → Ex sh sc M K mi d b L st σ r σ2) (h2 : ¬ c → Ex sh sc M K mi d a L st σ r σ2) : Ex sh sc M K mi d (if ¬ c then a else b) L st σ r σ2 :=
  Ex_br h2 (fun h => h1 (Decidable.not_not.mp h))
theorem Ex_brNI {K : Nat} {mi : MI} {d a b : Nat} {c c2 : Prop} [Decidable c] {L : Lo} {st : List Value} {σ σ2 : St3} {r : Res} (hc : ¬ c ↔ ¬ c2) (h1 : c2 → Ex sh sc M K mi d b L st σ r σ2) (h2 : ¬ c2 → Ex sh sc M K mi d a L st σ r σ2) : Ex sh sc M K mi d (if ¬ c then a else b) L st σ r σ2 :=
  Ex_br (fun h => h2 (hc.mp h)) (fun h => h1 (Classical.byContradiction (fun q => h (hc.mpr q))))
/-- how long the loops of the functions may go -/
def FU : Nat := 1099511627776
/-- how deep the functions may call themselves -/
def RF : Nat := 12
end Rules
