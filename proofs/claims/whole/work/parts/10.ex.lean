/-! ===== runs, and how they are put together ===== -/
/-- more is known of the second -/
def Le : Lo → Lo → Prop
  | [], [] => True
  | none :: a, _ :: b => Le a b
  | some v :: a, w :: b => some v = w ∧ Le a b
  | _, _ => False
theorem Le.len : ∀ {a b : Lo}, Le a b → a.length = b.length
  | [], [], _ => rfl
  | none :: a, _ :: b, h => by simp [Le.len (a := a) (b := b) h]
  | some v :: a, w :: b, h => by simp [Le.len (a := a) (b := b) h.2]
  | [], _ :: _, h => h.elim
  | none :: _, [], h => h.elim
  | some _ :: _, [], h => h.elim
theorem Le.at : ∀ {a b : Lo} {i : Nat} {v : Value}, Le a b → a[i]? = some (some v) → b[i]? = some (some v)
  | [], [], i, v, _, h => by simp at h
  | none :: a, w :: b, 0, v, _, h => by simp at h
  | none :: a, w :: b, i + 1, v, hl, h => Le.at (a := a) (b := b) (i := i) hl h
  | some x :: a, w :: b, 0, v, hl, h => by rw [← hl.1]; exact h
  | some x :: a, w :: b, i + 1, v, hl, h => Le.at (a := a) (b := b) (i := i) hl.2 h
  | [], _ :: _, _, _, hl, _ => hl.elim
  | none :: _, [], _, _, hl, _ => hl.elim
  | some _ :: _, [], _, _, hl, _ => hl.elim
theorem Le.of : ∀ {a b : Lo}, a.length = b.length → (∀ (i : Nat) (v : Value), a[i]? = some (some v) → b[i]? = some (some v)) → Le a b
  | [], [], _, _ => trivial
  | none :: a, w :: b, hl, h => Le.of (a := a) (b := b) (by simpa using hl) (fun i v hv => h (i + 1) v hv)
  | some x :: a, w :: b, hl, h => ⟨(Option.some.inj (h 0 x rfl)).symm, Le.of (a := a) (b := b) (by simpa using hl) (fun i v hv => h (i + 1) v hv)⟩
  | [], _ :: _, hl, _ => by simp at hl
  | none :: _, [], hl, _ => by simp at hl
  | some _ :: _, [], hl, _ => by simp at hl
theorem Le.refl (a : Lo) : Le a a := Le.of rfl (fun _ _ h => h)
theorem kil_ge {i j : Nat} {L : Lo} {v : Value} (h : L[j]? = some (some v)) (hc : j + 1 = i → v.category ≠ 2) : (kil i L)[j]? = some (some v) := by
  unfold kil
  cases i with
  | zero => exact h
  | succ n =>
    dsimp only
    split
    · rename_i x hx
      have e : n ≠ j := by
        intro e
        subst e
        rw [hx] at h
        cases h
        exact hc rfl rfl
      rw [List.getElem?_set_ne e]; exact h
    · rename_i x hx
      have e : n ≠ j := by
        intro e
        subst e
        rw [hx] at h
        cases h
        exact hc rfl rfl
      rw [List.getElem?_set_ne e]; exact h
    · exact h
theorem Le.st1 {a b : Lo} (h : Le a b) (i : Nat) (v : Value) : Le ((kil i a).set i (some v)) ((kil i b).set i (some v)) := by
  refine Le.of (by simp [kil_len, h.len]) (fun j w hw => ?_)
  by_cases e : i = j
  · subst e
    have h1 : i < (kil i a).length := by
      have := (List.getElem?_eq_some_iff.mp hw).1
      simpa using this
    rw [List.getElem?_set_self h1] at hw
    rw [List.getElem?_set_self (by rw [kil_len, ← h.len, ← kil_len i a]; exact h1)]
    exact hw
  · rw [List.getElem?_set_ne e] at hw ⊢
    obtain ⟨h1, h2⟩ := kil_at hw
    exact kil_ge (h.at h1) h2
theorem Le.setN {a b : Lo} (h : Le a b) (i : Nat) : Le (a.set i none) (b.set i none) := by
  refine Le.of (by simp [h.len]) (fun j w hw => ?_)
  by_cases e : i = j
  · subst e
    rw [List.getElem?_set] at hw
    simp at hw
  · rw [List.getElem?_set_ne e] at hw ⊢
    exact h.at hw
theorem Le.kil {a b : Lo} (h : Le a b) (i : Nat) : Le ((kil i a).set i none) ((kil i b).set i none) := by
  refine Le.of (by simp [kil_len, h.len]) (fun j w hw => ?_)
  by_cases e : i = j
  · subst e
    rw [List.getElem?_set] at hw
    simp at hw
  · rw [List.getElem?_set_ne e] at hw ⊢
    obtain ⟨h1, h2⟩ := kil_at hw
    exact kil_ge (h.at h1) h2
theorem bif_map {b : Bool} {p : Nat} {L0 L : Lo} {r : List Value} {σ : St3} : (bif b then some (p, L0, r, σ) else none) = Option.map (fun q : Cfg => (q.1, L0, q.2.2)) (bif b then some (p, L, r, σ) else none) := by cases b <;> rfl
theorem bif_none {α β : Type} {b : Bool} {f : α → β} : (bif b then (none : Option β) else none) = Option.map f (bif b then (none : Option α) else none) := by cases b <;> rfl
theorem bif_map2 {a b : Bool} {p : Nat} {L0 L : Lo} {r : List Value} {σ : St3} : (bif a then (bif b then some (p, L0, r, σ) else none) else none) = Option.map (fun q : Cfg => (q.1, L0, q.2.2)) (bif a then (bif b then some (p, L, r, σ) else none) else none) := by cases a <;> cases b <;> rfl
theorem bif_no {α : Type} {b : Bool} {y : α} (h : (bif b then (none : Option α) else none) = some y) : False := by cases b <;> cases h
theorem bif_at2 {α : Type} {a b : Bool} {x y : α} (h : (bif a then (bif b then some x else none) else none) = some y) : x = y := by
  cases a <;> cases b <;> first | (cases h; done) | exact Option.some.inj h
section Mono
variable {sh : Shp} {sc : Sct} {M : List MI}
theorem ldI_le {a b : Lo} (h : Le a b) {i : Nat} {v : Value} (hv : ldI a i = some v) : ldI b i = some v := by
  obtain ⟨x, rfl, hx⟩ := ldI_at hv
  simp [ldI, h.at hx]
theorem ldL_le {a b : Lo} (h : Le a b) {i : Nat} {v : Value} (hv : ldL a i = some v) : ldL b i = some v := by
  obtain ⟨x, rfl, hx⟩ := ldL_at hv
  simp [ldL, h.at hx]
theorem ldA_le {a b : Lo} (h : Le a b) {i : Nat} {v : Value} (hv : ldA a i = some v) : ldA b i = some v := by
  obtain ⟨x, rfl, hx⟩ := ldA_at hv
  simp [ldA, h.at hx]
set_option maxHeartbeats 4000000 in
theorem istep_le {mi : MI} {pc pc' : Nat} {L L' L2 : Lo} {st st' : List Value} {σ σ' : St3} (hL : Le L L2) (h : istep sh sc mi pc L st σ = some (pc', L', st', σ')) : ∃ L2', istep sh sc mi pc L2 st σ = some (pc', L2', st', σ') ∧ Le L' L2' := by
  have h0 := h
  suffices hs : ∃ L2', istep sh sc mi pc L2 st σ = some (pc', L2', st', σ') ∧ Le L' L2' from hs
  have hu : istep sh sc mi pc L2 st σ = istep sh sc mi pc L2 st σ := rfl
  conv at hu => rhs; unfold istep
  rw [hu]
  unfold istep at h
  cases hc : mi.code pc with
  | none => rw [hc] at h; cases h
  | some ent =>
    rw [hc] at h
    obtain ⟨ins, len, a, b, v⟩ := ent
    dsimp only at h ⊢
    have bi : ∀ (f : Int32 → Int32 → Int32), binI (pc + len) L st σ f = some (pc', L', st', σ') → ∃ L2', binI (pc + len) L2 st σ f = some (pc', L2', st', σ') ∧ Le L' L2' := by
      intro f h
      obtain ⟨x, y, r, rfl, hq⟩ := binI_at h
      cases hq
      exact ⟨L2, rfl, hL⟩
    have bl : ∀ (f : Int64 → Int64 → Int64), binL (pc + len) L st σ f = some (pc', L', st', σ') → ∃ L2', binL (pc + len) L2 st σ f = some (pc', L2', st', σ') ∧ Le L' L2' := by
      intro f h
      obtain ⟨x, y, r, rfl, hq⟩ := binL_at h
      cases hq
      exact ⟨L2, rfl, hL⟩
    have pu : ∀ o o2 : Option Value, (∀ w, o = some w → o2 = some w) → push (pc + len) L st σ o = some (pc', L', st', σ') → ∃ L2', push (pc + len) L2 st σ o2 = some (pc', L2', st', σ') ∧ Le L' L2' := by
      intro o o2 ho h
      obtain ⟨w, hw, hq⟩ := push_at h
      cases hq
      rw [ho w hw]
      exact ⟨L2, rfl, hL⟩
    have s1 : ∀ i, stoI (pc + len) i L st σ = some (pc', L', st', σ') → ∃ L2', stoI (pc + len) i L2 st σ = some (pc', L2', st', σ') ∧ Le L' L2' := by
      intro i h
      obtain ⟨x, r, rfl, hi, hq⟩ := stoI_at h
      cases hq
      refine ⟨st1 i (.int x) L2, ?_, hL.st1 i _⟩
      unfold stoI
      dsimp only
      rw [hL.len] at hi
      rw [show Nat.blt i L2.length = true from Nat.ble_eq_true_of_le hi]
      rfl
    have s2 : ∀ i, stoA (pc + len) i L st σ = some (pc', L', st', σ') → ∃ L2', stoA (pc + len) i L2 st σ = some (pc', L2', st', σ') ∧ Le L' L2' := by
      intro i h
      obtain ⟨x, r, rfl, hi, hq⟩ := stoA_at h
      cases hq
      refine ⟨st1 i (.ref x) L2, ?_, hL.st1 i _⟩
      unfold stoA
      dsimp only
      rw [hL.len] at hi
      rw [show Nat.blt i L2.length = true from Nat.ble_eq_true_of_le hi]
      rfl
    have s3 : ∀ i, stoL (pc + len) i L st σ = some (pc', L', st', σ') → ∃ L2', stoL (pc + len) i L2 st σ = some (pc', L2', st', σ') ∧ Le L' L2' := by
      intro i h
      obtain ⟨x, r, rfl, hi, hq⟩ := stoL_at h
      cases hq
      refine ⟨st2 i (.long x) L2, ?_, (hL.st1 i _).setN (i + 1)⟩
      unfold stoL
      dsimp only
      rw [hL.len] at hi
      rw [show Nat.blt (i + 1) L2.length = true from Nat.ble_eq_true_of_le hi]
      rfl
    cases ins with
    | iload i => exact pu _ _ (fun w hw => ldI_le hL hw) h
    | iload_n i => exact pu _ _ (fun w hw => ldI_le hL hw) h
    | lload i => exact pu _ _ (fun w hw => ldL_le hL hw) h
    | lload_n i => exact pu _ _ (fun w hw => ldL_le hL hw) h
    | aload i => exact pu _ _ (fun w hw => ldA_le hL hw) h
    | aload_n i => exact pu _ _ (fun w hw => ldA_le hL hw) h
    | istore i => exact s1 _ h
    | istore_n i => exact s1 _ h
    | lstore i => exact s3 _ h
    | lstore_n i => exact s3 _ h
    | astore i => exact s2 _ h
    | astore_n i => exact s2 _ h
    | iinc i n =>
      dsimp only at h ⊢
      split at h
      · rename_i x hx
        split at h
        · cases h
          rw [hL.at hx]
          exact ⟨_, rfl, hL.st1 i _⟩
        · cases h
      · cases h
    | iadd => exact bi _ h
    | isub => exact bi _ h
    | imul => exact bi _ h
    | iand => exact bi _ h
    | ior => exact bi _ h
    | ixor => exact bi _ h
    | ishl => exact bi _ h
    | ishr => exact bi _ h
    | iushr => exact bi _ h
    | ladd => exact bl _ h
    | lsub => exact bl _ h
    | lmul => exact bl _ h
    | land => exact bl _ h
    | lor => exact bl _ h
    | lxor => exact bl _ h
    | _ =>
      first
        | (dsimp only at h; cases h; done)
        | (have key : istep sh sc mi pc L2 st σ = Option.map (fun q : Cfg => (q.1, L2, q.2.2)) (istep sh sc mi pc L st σ) := by
            unfold istep
            rw [hc]
            dsimp only
            repeat' split
            all_goals first | rfl | exact bif_map | exact bif_none | exact bif_map2
           rw [h0] at key
           rw [hu] at key
           rw [hc] at key
           have e : L' = L := by
             clear key hu h0
             dsimp only at h
             repeat' split at h
             all_goals first | (cases h; rfl) | (cases h; done) | (obtain ⟨h1, h2⟩ := bif_at h; cases h2; rfl) | exact (bif_no h).elim | (cases (bif_at2 h); rfl)
           subst e
           exact ⟨L2, key, hL⟩)
end Mono
