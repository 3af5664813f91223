/-! ===== what constructors do, step by step ===== -/
/-- an array class over rows of this type has been made -/
def va_AOA (t : FieldType) (U : State) : Prop := (Cond.arrayOver (.array t)).before #[] U = true
theorem va_AOA.use {t : FieldType} {A : Array Value} {U : State} (h : va_AOA t U) : (Cond.arrayOver (.array t)).before A U = true := h
theorem va_AOA.of {t : FieldType} {A : Array Value} {U : State} (h : (Cond.arrayOver (.array t)).before A U = true) : va_AOA t U := h
theorem va_AOA.moved {t : FieldType} {u U : State} (hvm : u.vm.Alike U.vm) (h : va_AOA t u) : va_AOA t U := over_moved hvm h
/-! ===== BEGIN new T[n][m]: the outer array a place, the inner ones among the pooled ===== -/
/-- f, but v at every address of l -/
def vr_up {α : Type} (f : Nat → α) (l : List Nat) (v : α) : Nat → α := fun a => if a ∈ l then v else f a
theorem vr_up_in {α : Type} {f : Nat → α} {l : List Nat} {v : α} {a : Nat} (h : a ∈ l) : vr_up f l v a = v := if_pos h
theorem vr_up_ne {α : Type} {f : Nat → α} {l : List Nat} {v : α} {a : Nat} (h : a ∉ l) : vr_up f l v a = f a := if_neg h
theorem vr_rows {L l : List Nat} {f : Nat → va_E} {e : va_E} (h : ∀ a, a ∈ l → a ∉ L) : va_pl L f ++ l.map (fun a => (a, e)) = va_pl (L ++ l) (vr_up f l e) := by
  unfold va_pl
  rw [List.map_append]
  congr 1
  · apply List.map_congr_left
    intro a ha
    rw [vr_up_ne (fun q => h a q ha)]
  · apply List.map_congr_left
    intro a ha
    rw [vr_up_in ha]
theorem vr_lay {X rows : va_W} {x : Nat × va_E} {pl : va_W} {D : va_G} {cl : List vw_C} {H : Heap} (hP : va_P D cl (((X ++ pl) ++ [x]) ++ rows) H) : va_P D cl ((X ++ [x]) ++ (pl ++ rows)) H := by
  rw [List.append_assoc (X ++ pl)] at hP
  have h := va_P.swap hP
  rw [← List.append_assoc X] at h
  have h2 := va_P.swap h
  rw [List.append_assoc (X ++ [x])] at h2
  exact h2
theorem vr_layD {X rows : va_W} {x : Nat × va_E} {pl : va_W} {A : Nat → Prop} (hD : va_D A (((X ++ pl) ++ [x]) ++ rows)) : va_D A ((X ++ [x]) ++ (pl ++ rows)) := by
  rw [List.append_assoc (X ++ pl)] at hD
  have h := va_D.swap hD
  rw [← List.append_assoc X] at h
  have h2 := va_D.swap h
  rw [List.append_assoc (X ++ [x])] at h2
  exact h2
theorem vr_outer (c : ClassId) (N h0 : Nat) : ∀ i : Nat, Jvm.Free.Multi.outerC c N h0 i = arrV c N (fun j => va_rf (if j < i then some (h0 + 1 + j) else none))
  | 0 => by
    show ({ cls := c, slots := Array.replicate N .null, vm := .none } : Cell) = _
    rw [arrV_new]
    refine congrArg (arrV c N) (funext fun j => ?_)
    simp [va_rf]
  | i + 1 => by
    show (Jvm.Free.Multi.outerC c N h0 i).setSlot i (.ref (h0 + 1 + i)) = _
    rw [vr_outer c N h0 i, arrV_store]
    refine congrArg (arrV c N) (funext fun j => ?_)
    by_cases e : j = i
    · subst e
      simp [updV, va_rf]
    · by_cases h : j < i
      · simp [updV, e, h, Nat.lt_succ_of_lt h]
      · simp [updV, e, h, show ¬ j < i + 1 by omega]
section VGM
variable {p : Program} {l : Launch} {e : Env} {R : Room} {s : State} {m : MethodId} {args : Array Value} {below : List Frame} {meth : Method} {c : Code} {H : Heap} {locs : List Loc} {cells slots : Nat} {Q : State → Prop}
variable {cc : ByteArray} {pc : Nat} {ls : Array Slot} {rest : List Value} {D : va_G} {cl : List vw_C} {A : Nat → Prop} {a : Nat} {tys : List (ClassId × FieldType)} {ws : va_W} {H0 : Heap}
theorem va_mna {X : va_W} {L : List Nat} {f : Nat → va_E} {cc : ByteArray} (hexec : p.tables.exec = Jvm.exec) (hb : c.code = cc) {own : String} {index : Nat} {ty : FieldType} {cy : ClassId} (hown : s.vm.findClass own = some m.cls) (hclink : (Cond.classLink own index ("[" ++ (FieldType.array ty).toString)).before args s = true) (hover : va_AOA ty s) (harr : (Cond.arrayClass ty).before args s = true) (hcy : s.vm.findClass (FieldType.array ty).toString = some cy)
    (hK : va_K D cl tys s) (hP : va_P D cl (X ++ va_pl L f) H) (hD : va_D A (X ++ va_pl L f)) (hS : va_S A H0 H locs) (hA : ∀ q, H0.size ≤ q → A q) {n k : Int32} {N' K' : Nat} {z : vp_A} (hn : ¬ n < 0) (hk : ¬ k < 0) (hN : n.toNatClampNeg = N') (hM : k.toNatClampNeg = K')
    (hb1 : N' * 4 ≤ 536870912) (hb2 : K' * componentBytes ty ≤ 536870912) (hb3 : K' ≤ 536870912) (hdf : fits ty (defaultValue ty) = true) (hdd : (defaultValue ty).isDefault = true) (hcells : cells + (1 + N') ≤ R.cells) (hslots : slots + (N' + N' * K') ≤ R.slots) (hz : ∀ c : ClassId, Jvm.Free.Multi.innerC c K' (defaultValue ty) = vp_cell c z) (hdg : decode cc pc = .ok (.multianewarray index 2, 4))
    (kk : ∀ (q : Nat) (r : Nat → Nat) (cA : ClassId) (H1 : Heap), (∀ i j : Nat, i < N' → j < N' → r i = r j → i = j) → (∀ i : Nat, i < N' → r i ∉ L) → va_K D cl (tys ++ [(cA, .array ty)]) s →
      va_P D cl ((X ++ [(q, .inl (cA, N', .inr (.inr (.inr (.inr (fun i => if i < N' then some (r i) else none))))))]) ++ va_pl (L ++ (List.range N').map r) (vr_up f ((List.range N').map r) (.inl (cy, z)))) H1 → va_D A ((X ++ [(q, .inl (cA, N', .inr (.inr (.inr (.inr (fun i => if i < N' then some (r i) else none))))))]) ++ va_pl (L ++ (List.range N').map r) (vr_up f ((List.range N').map r) (.inl (cy, z)))) → va_S A H0 H1 locs →
      W p l e R s m args below meth c H1 locs (cells + 1 + N') (slots + N' + N' * K') Q (F0 m (pc + 4) ls (.ref q :: rest))) : W p l e R s m args below meth c H locs cells slots Q (F0 m pc ls (.int k :: .int n :: rest)) := by
  subst hN
  subst hM
  intro T hT Xs
  obtain ⟨vm₁, cA, comp, -, fA, fC, hO, -, X', step⟩ := Xs.multianewarray2F hexec hown hclink (va_AOA.use hover) harr (g := F0 m pc ls (.int k :: .int n :: rest)) rfl (by rw [hb]; exact hdg) rfl hn hk hb1 hb2 hb3 hdf hdd hcells hslots
  have ec : some cy = some comp := hcy.symm.trans fC
  cases ec
  generalize hF : Jvm.Free.Multi.fill (T.setVm vm₁) cA cy n.toNatClampNeg k.toNatClampNeg (defaultValue ty) n.toNatClampNeg = F at X' step
  have hTh : (T.setVm vm₁).heap = H := hT
  obtain ⟨f1, f2, -, -⟩ := Jvm.Free.Multi.fill_facts (T.setVm vm₁) cA cy n.toNatClampNeg k.toNatClampNeg (defaultValue ty) n.toNatClampNeg
  rw [hF, hTh] at f1 f2
  have hold : ∀ x : Nat, x < H.size → F.heap[x]? = H[x]? := fun x hx => by
    have := Jvm.Free.Multi.fill_old (T.setVm vm₁) cA cy n.toNatClampNeg k.toNatClampNeg (defaultValue ty) (a := x) (by rw [hTh]; exact hx) n.toNatClampNeg
    rw [hF, hTh] at this
    exact this
  have hrow : ∀ j : Nat, j < n.toNatClampNeg → F.heap[H.size + 1 + j]? = some (vp_cell cy z) := fun j hj => by
    have := Jvm.Free.Multi.fill_inner (T.setVm vm₁) cA cy n.toNatClampNeg k.toNatClampNeg (defaultValue ty) n.toNatClampNeg j hj
    rw [hF, hTh, hz] at this
    exact this
  have hout : Jvm.Free.Multi.outerC cA n.toNatClampNeg H.size n.toNatClampNeg = vp_cell cA (n.toNatClampNeg, .inr (.inr (.inr (.inr (fun i => if i < n.toNatClampNeg then some (H.size + 1 + i) else none))))) := by
    rw [vp_cell_q]
    exact vr_outer cA n.toNatClampNeg H.size n.toNatClampNeg
  rw [hout] at f2
  have hlt : ∀ a, a ∈ L → a < H.size := fun a ha => by
    obtain ⟨k9, hk9⟩ := va_pl_get (X := X) (f := f) ha
    exact (hP k9 _ hk9).lt
  have hnl : ∀ i : Nat, i < n.toNatClampNeg → H.size + 1 + i ∉ L := fun i _ h => by
    have := hlt _ h
    omega
  have hnm : ∀ a, a ∈ (List.range n.toNatClampNeg).map (fun i => H.size + 1 + i) → a ∉ L := fun a ha h => by
    obtain ⟨i, -, rfl⟩ := List.mem_map.mp ha
    have := hlt _ h
    omega
  have hP0 : va_P D cl (X ++ va_pl L f) F.heap := hP.kept (fun k9 x hx => hold x.1 ((hP k9 x hx).lt))
  have hP1 : va_P D cl ((X ++ va_pl L f) ++ [(H.size, .inl (cA, n.toNatClampNeg, .inr (.inr (.inr (.inr (fun i => if i < n.toNatClampNeg then some (H.size + 1 + i) else none))))))]) F.heap := hP0.app (fun k9 x hx => by
    have h0 : k9 < 1 := (List.getElem?_eq_some_iff.mp hx).1
    rw [show k9 = 0 by omega] at hx
    cases hx
    exact f2)
  have hP2 : va_P D cl (((X ++ va_pl L f) ++ [(H.size, .inl (cA, n.toNatClampNeg, .inr (.inr (.inr (.inr (fun i => if i < n.toNatClampNeg then some (H.size + 1 + i) else none))))))]) ++ ((List.range n.toNatClampNeg).map (fun i => H.size + 1 + i)).map (fun a => (a, .inl (cy, z)))) F.heap := hP1.app (fun k9 x hx => by
    obtain ⟨a, ha, rfl⟩ := List.mem_map.mp (List.mem_of_getElem? hx)
    obtain ⟨i, hi, rfl⟩ := List.mem_map.mp ha
    exact hrow i (List.mem_range.mp hi))
  have hD2 : va_D A (((X ++ va_pl L f) ++ [(H.size, .inl (cA, n.toNatClampNeg, .inr (.inr (.inr (.inr (fun i => if i < n.toNatClampNeg then some (H.size + 1 + i) else none))))))]) ++ ((List.range n.toNatClampNeg).map (fun i => H.size + 1 + i)).map (fun a => (a, .inl (cy, z)))) := by
    have hD1 := hD.push (e := .inl (cA, n.toNatClampNeg, .inr (.inr (.inr (.inr (fun i => if i < n.toNatClampNeg then some (H.size + 1 + i) else none)))))) hP rfl (hA _ hS.1)
    generalize hW1 : (X ++ va_pl L f) ++ [(H.size, .inl (cA, n.toNatClampNeg, .inr (.inr (.inr (.inr (fun i => if i < n.toNatClampNeg then some (H.size + 1 + i) else none))))))] = W1 at hD1 hP1 ⊢
    have hle : ∀ (k9 : Nat) (x : Nat × va_E), W1[k9]? = some x → x.1 ≤ H.size := fun k9 x hx => by
      rw [← hW1] at hx
      by_cases hl : k9 < (X ++ va_pl L f).length
      · rw [List.getElem?_append_left hl] at hx
        exact Nat.le_of_lt ((hP k9 x hx).lt)
      · rw [List.getElem?_append_right (by omega)] at hx
        have h0 : k9 - (X ++ va_pl L f).length < 1 := (List.getElem?_eq_some_iff.mp hx).1
        rw [show k9 - (X ++ va_pl L f).length = 0 by omega] at hx
        cases hx
        exact Nat.le_refl _
    have hr : ∀ (k9 : Nat) (x : Nat × va_E), (((List.range n.toNatClampNeg).map (fun i => H.size + 1 + i)).map (fun a => ((a, .inl (cy, z)) : Nat × va_E)))[k9]? = some x → x.1 = H.size + 1 + k9 := fun k9 x hx => by
      rw [List.getElem?_map, List.getElem?_map] at hx
      by_cases h9 : k9 < n.toNatClampNeg
      · rw [List.getElem?_range h9] at hx
        cases hx
        rfl
      · have hn0 : (List.range n.toNatClampNeg)[k9]? = none := List.getElem?_eq_none (by rw [List.length_range]; omega)
        rw [hn0] at hx
        cases hx
    refine ⟨fun i j x y hi hj hxy => ?_, fun k9 x hx => ?_⟩
    · by_cases h1 : i < W1.length <;> by_cases h2 : j < W1.length
      · rw [List.getElem?_append_left h1] at hi
        rw [List.getElem?_append_left h2] at hj
        exact hD1.1 i j x y hi hj hxy
      · rw [List.getElem?_append_left h1] at hi
        rw [List.getElem?_append_right (by omega)] at hj
        have := hle _ _ hi
        have := hr _ _ hj
        omega
      · rw [List.getElem?_append_right (by omega)] at hi
        rw [List.getElem?_append_left h2] at hj
        have := hle _ _ hj
        have := hr _ _ hi
        omega
      · rw [List.getElem?_append_right (by omega)] at hi hj
        have := hr _ _ hi
        have := hr _ _ hj
        omega
    · by_cases h1 : k9 < W1.length
      · rw [List.getElem?_append_left h1] at hx
        exact hD1.2 k9 x hx
      · rw [List.getElem?_append_right (by omega)] at hx
        have := hr _ _ hx
        exact hA _ (by have := hS.1; omega)
  have hAr : ArrOfT s cA (.array ty) := fun N9 z9 => by
    obtain ⟨-, k9, hk9, cm9, hkk9⟩ := (hO 0 0 0).1
    exact ⟨(fun q hq => by cases hq), k9, hk9, cm9, hkk9⟩
  have hK2 : va_K D cl (tys ++ [(cA, .array ty)]) s := ⟨hK.1, fun k9 x hx => by
    by_cases hl : k9 < tys.length
    · rw [List.getElem?_append_left hl] at hx
      exact hK.2 k9 x hx
    · rw [List.getElem?_append_right (by omega)] at hx
      have h0 : k9 - tys.length < 1 := (List.getElem?_eq_some_iff.mp hx).1
      rw [show k9 - tys.length = 0 by omega] at hx
      cases hx
      exact ⟨hAr, fA⟩⟩
  obtain ⟨t, a1, b1⟩ := kk H.size (fun i => H.size + 1 + i) cA F.heap (fun i j _ _ h => by have h9 : H.size + 1 + i = H.size + 1 + j := h; omega) hnl hK2 (by rw [← vr_rows hnm]; exact vr_lay hP2) (by rw [← vr_rows hnm]; exact vr_layD hD2) ⟨by rw [f1]; have := hS.1; omega, fun x h1 h2 => (hold x (Nat.lt_of_lt_of_le h1 hS.1)).trans (hS.2.1 x h1 h2), hS.2.2⟩ F rfl X'
  refine ⟨t, step t ?_, b1⟩
  have e : T.heap.size = H.size := by rw [hT]
  rw [e]
  exact a1
end VGM
/-! ===== END ===== -/
theorem va_nd_of : ∀ {l : List Nat}, l.Nodup → va_nd l = true
  | [], _ => rfl
  | a :: l, h => by
    have h1 := List.nodup_cons.mp h
    show (decide (a ∉ l) && va_nd l) = true
    rw [decide_eq_true h1.1, va_nd_of h1.2]
    rfl
theorem rng_get (X : va_W) : (List.range X.length).map (fun i => X[i]?) = X.map some := by
  apply List.ext_getElem?
  intro i
  rw [List.getElem?_map, List.getElem?_map]
  by_cases h : i < X.length
  · rw [List.getElem?_range h, List.getElem?_eq_getElem h]
    simp
  · rw [List.getElem?_eq_none (by rw [List.length_range]; omega), List.getElem?_eq_none (by omega)]
    rfl
theorem last_get (X : va_W) (x : Nat × va_E) : [X.length].map (fun i => (X ++ [x])[i]?) = [x].map some := by simp
theorem last_sub (X : va_W) (x : Nat × va_E) : [X.length].filterMap (fun i => (X ++ [x])[i]?) = [x] := by simp
/-- behind a call over the last cell: the rest, and what came back -/
theorem join_last {A0 : Nat → Prop} {D : va_G} {cl : List vw_C} {X w1 : va_W} {x : Nat × va_E} {H H1 : Heap} (hP : va_P D cl (X ++ [x]) H) (hD : va_D A0 (X ++ [x])) (hk : ∀ q : Nat, q < H.size → ¬ va_A [x] H.size q → H1[q]? = H[q]?) (hF : ∀ q, va_A [x] H.size q → A0 q)
    (hP1 : va_P D cl w1 H1) (hD1 : va_D (va_A [x] H.size) w1) : va_P D cl (X ++ w1) H1 ∧ va_D A0 (X ++ w1) := by
  refine va_join (wr := X) (w1 := w1) hP hD [X.length] (List.range X.length) (last_get X x) ?_ (va_nd_of List.nodup_range) ?_ hk hF hP1 hD1
  · rw [← rng_get X]
    apply List.map_congr_left
    intro i hi
    rw [List.getElem?_append_left (List.mem_range.mp hi)]
  · intro i hi h
    have := List.mem_range.mp hi
    rw [List.mem_singleton] at h
    omega
/-- an int that is pushed -/
def PU (cc : ByteArray) (pc lam : Nat) (v : Int32) : Prop := (lam = 1 ∧ ∃ n : Int, decode cc pc = .ok (.iconst n, 1) ∧ Int32.ofInt n = v) ∨ (lam = 2 ∧ ∃ n : Int, decode cc pc = .ok (.bipush n, 2) ∧ (Int8.ofInt n).toInt32 = v) ∨ (lam = 3 ∧ ∃ n : Int, decode cc pc = .ok (.sipush n, 3) ∧ (Int16.ofInt n).toInt32 = v)
theorem PU.c {cc : ByteArray} {pc : Nat} {v : Int32} (n : Int) (h : decode cc pc = .ok (.iconst n, 1)) (h2 : Int32.ofInt n = v) : PU cc pc 1 v := Or.inl ⟨rfl, n, h, h2⟩
theorem PU.b {cc : ByteArray} {pc : Nat} {v : Int32} (n : Int) (h : decode cc pc = .ok (.bipush n, 2)) (h2 : (Int8.ofInt n).toInt32 = v) : PU cc pc 2 v := Or.inr (Or.inl ⟨rfl, n, h, h2⟩)
theorem PU.s {cc : ByteArray} {pc : Nat} {v : Int32} (n : Int) (h : decode cc pc = .ok (.sipush n, 3)) (h2 : (Int16.ofInt n).toInt32 = v) : PU cc pc 3 v := Or.inr (Or.inr ⟨rfl, n, h, h2⟩)
/-- a long that is pushed -/
def PL (cc : ByteArray) (own : String) (pc lam : Nat) (v : Int64) : Prop := (lam = 1 ∧ ∃ n : Fin 2, decode cc pc = .ok (.lconst n, 1) ∧ Int64.ofNat (n : Nat) = v) ∨ (lam = 3 ∧ ∃ idx : Nat, decode cc pc = .ok (.ldc2_w idx, 3) ∧ Cond.constantLong own idx v ∈ lw_tbl.filter goodWord)
theorem PL.c {cc : ByteArray} {own : String} {pc : Nat} {v : Int64} (n : Fin 2) (h : decode cc pc = .ok (.lconst n, 1)) (h2 : Int64.ofNat (n : Nat) = v) : PL cc own pc 1 v := Or.inl ⟨rfl, n, h, h2⟩
theorem PL.w {cc : ByteArray} {own : String} {pc : Nat} {v : Int64} (idx : Nat) (h : decode cc pc = .ok (.ldc2_w idx, 3)) {i : Nat} (h2 : wd lw_tbl i (.constantLong own idx v) = true) : PL cc own pc 3 v := Or.inr ⟨rfl, idx, h, wd_in h2⟩
/-- what is known in a constructor -/
def CX (p : Program) (s : State) (m : MethodId) (args : Array Value) (meth : Method) (c : Code) (cc : ByteArray) (ls : Array Slot) (D : va_G) (cT : List (ClassId × FieldType)) (A : Nat → Prop) (own : String) (h0 ci N : Nat) (T : u_T) : Prop :=
  p.tables.exec = Jvm.exec ∧ c.code = cc ∧ s.vm.findClass own = some m.cls ∧ (∀ w ∈ lw_tbl.filter goodWord, w.before args s = true) ∧ meth.name = "<init>" ∧ va_K D kCl cT s ∧ ls[0]? = some (.val (.ref h0)) ∧ kCl[ci]? = some (own, T, N) ∧ (∀ q, s.heap.size ≤ q → A q) ∧ c.maxLocals = ls.size
/-- the nest mates' constructors that are called -/
def cNs : List (String × Nat × MethodName × String) := [("MeshWaters", 9, ⟨"MeshWaters$Reader", "<init>", "()V"⟩, "MeshWaters"), ("MeshWaters$Reader", 17, ⟨"MeshWaters$Sea", "<init>", "()V"⟩, "MeshWaters"), ("MeshWaters$Sea", 30, ⟨"MeshWaters$Rule", "<init>", "()V"⟩, "MeshWaters"), ("MeshWaters", 18, ⟨"MeshWaters$Sea", "<init>", "()V"⟩, "MeshWaters"), ("MeshWaters", 32, ⟨"MeshWaters$Scene", "<init>", "()V"⟩, "MeshWaters"), ("MeshWaters", 42, ⟨"MeshWaters$Pond", "<init>", "()V"⟩, "MeshWaters"), ("MeshWaters", 49, ⟨"MeshWaters$Finder", "<init>", "()V"⟩, "MeshWaters"), ("MeshWaters", 56, ⟨"MeshWaters$Parts", "<init>", "()V"⟩, "MeshWaters"), ("MeshWaters", 63, ⟨"MeshWaters$Licences", "<init>", "()V"⟩, "MeshWaters")]
def CN (U : State) : Prop := va_AOA .int U ∧ ∀ q ∈ cNs, va_Nw (.methodLinkNest q.1 q.2.1 q.2.2.1 q.2.2.2) U
theorem CN.moved {s U : State} (hW : s.WarmedH U.vm) (h : CN s) : CN U := ⟨va_AOA.moved hW.alike h.1, fun q hq => va_Nw.warmM hW (h.2 q hq)⟩
/-- a constructor's contract: from a cell of zeros to a world -/
def CONG (X : (Nat → Prop) → State → Prop) (l : Launch) (D : va_G) (cT : List (ClassId × FieldType)) (ci : Nat) (y : MethodName) (bytes : ByteArray) (z : List Value) (w : (Nat → Nat) → va_W) (fr lo mc ms : Nat) : Prop :=
  ∀ h0 sz : Nat, Met l y (Cond.code y bytes 1 none :: lw_tbl.filter goodWord) { frames := fr, cells := mc, slots := ms, locals := lo }
    (va_Pc [.ref h0] (fun U => U.heap.size = sz ∧ va_P D kCl [(h0, .inr (ci, z))] U.heap ∧ va_K D kCl cT U ∧ va_D (fun _ => True) [(h0, .inr (ci, z))] ∧ X (va_A [(h0, .inr (ci, z))] sz) U))
    (va_Qv (fun g : Nat → Nat => g 0 = h0) (fun g t => va_P D kCl (w g) t.heap ∧ va_D (va_A [(h0, .inr (ci, z))] sz) (w g)) (va_A [(h0, .inr (ci, z))] sz)) mc ms (va_A [(h0, .inr (ci, z))] sz)
def CON (l : Launch) (D : va_G) (cT : List (ClassId × FieldType)) (ci : Nat) (y : MethodName) (bytes : ByteArray) (z : List Value) (w : (Nat → Nat) → va_W) (fr lo mc ms : Nat) : Prop := CONG (fun _ => CN) l D cT ci y bytes z w fr lo mc ms
section Con
variable {p : Program} {l : Launch} {e : Env} {R : Room} {s : State} {m : MethodId} {args : Array Value} {below : List Frame} {meth : Method} {c : Code} {H : Heap} {locs : List Loc} {cells slots : Nat} {Q : State → Prop}
variable {cc : ByteArray} {ls : Array Slot} {rest : List Value} {D : va_G} {A : Nat → Prop} {cT : List (ClassId × FieldType)} {own : String} {h0 ci N : Nat} {T : u_T} {fs : List Value} {ws : va_W}
theorem PU.go (hx : p.tables.exec = Jvm.exec) (hb : c.code = cc) {pc lam : Nat} {v : Int32} (h : PU cc pc lam v) (k : W p l e R s m args below meth c H locs cells slots Q (F0 m (pc + lam) ls (.int v :: rest))) : W p l e R s m args below meth c H locs cells slots Q (F0 m pc ls rest) := by
  rcases h with ⟨rfl, n, h1, h2⟩ | ⟨rfl, n, h1, h2⟩ | ⟨rfl, n, h1, h2⟩
  · exact lv_iconst hx hb h1 h2 k
  · exact lv_bipush hx hb h1 h2 k
  · exact lv_sipush hx hb h1 h2 k
theorem PL.go (hx : p.tables.exec = Jvm.exec) (hb : c.code = cc) (hown : s.vm.findClass own = some m.cls) (hts : ∀ w ∈ lw_tbl.filter goodWord, w.before args s = true) {pc lam : Nat} {v : Int64} (h : PL cc own pc lam v)
    (k : W p l e R s m args below meth c H locs cells slots Q (F0 m (pc + lam) ls (.long v :: rest))) : W p l e R s m args below meth c H locs cells slots Q (F0 m pc ls rest) := by
  rcases h with ⟨rfl, n, h1, h2⟩ | ⟨rfl, idx, h1, h2⟩
  · exact lv_lconst hx hb h1 h2 k
  · exact lv_ldc2 hx hb hown (hts _ h2) h1 k
/-- a field of the new object -/
theorem C_put (hC : CX p s m args meth c cc ls D cT A own h0 ci N T) {pc idx k i : Nat} {v : Value} {ty : FieldType} {nm ds : String} {fin : Bool} (hk : k < N) (hT : T k = (own, nm, ds, fin)) (hw : wd lw_tbl i (.fieldLink own idx own nm ds) = true) (hd : parseFieldDescriptor ds = some ty) (hn : narrow ty v = v) (hf : fits ty v = true) (hl : k < fs.length)
    (hdg : decode cc pc = .ok (.putfield idx, 3)) (hP : va_P D kCl ((h0, .inr (ci, fs)) :: ws) H) (hD : va_D A ((h0, .inr (ci, fs)) :: ws)) (hS : va_S A s.heap H locs)
    (kk : ∀ (H1 : Heap) (locs1 : List Loc), va_P D kCl ((h0, .inr (ci, fs.set k v)) :: ws) H1 → va_D A ((h0, .inr (ci, fs.set k v)) :: ws) → va_S A s.heap H1 locs1 → W p l e R s m args below meth c H1 locs1 cells slots Q (F0 m (pc + 3) ls rest)) :
    W p l e R s m args below meth c H locs cells slots Q (F0 m pc ls (v :: .ref h0 :: rest)) := by
  obtain ⟨hx, hb, hown, hts, hin, hK, -, hc, hA, -⟩ := hC
  obtain ⟨g1, ⟨ty0, g2⟩, g3⟩ := kCY ci own T N hc
  have hlink : (Cond.fieldLink own idx own (T k).2.1 (T k).2.2.1).before args s = true := by rw [hT]; exact hts _ (wd_in hw)
  have hsame : ∀ x, s.fieldFound? (T k).1 (T k).2.1 (T k).2.2.1 = some x → s.fieldFound? own (T k).2.1 (T k).2.2.1 = some x := by rw [hT]; exact fun x h => h
  cases fin with
  | true => exact va_putF (ci := ci) (C := own) (T := T) (N := N) hx hb hts g1 ty0 g2 g3 hown hK hP hD hS 0 rfl hc k hk hlink hsame (by rw [hT]) hin (by rw [hT]) (ty := ty) (by rw [hT]; exact hd) hn hf hl hdg kk
  | false => exact va_put (ci := ci) (C := own) (T := T) (N := N) hx hb hts g1 ty0 g2 g3 hown hK hP hD hS 0 rfl hc k hk hlink hsame (by rw [hT]) (ty := ty) (by rw [hT]; exact hd) hn hf hl hdg kk
/-- super() -/
theorem C_obj (hC : CX p s m args meth c cc ls D cT A own h0 ci N T) {idx i1 i2 i3 : Nat} (h1 : wd lw_tbl i1 (.methodLink own idx Lib.objectInit) = true) (h2 : wd lw_tbl i2 (.instanceMethod Lib.objectInit) = true) (h3 : wd lw_tbl i3 (.code Lib.objectInit ⟨#[0xb1]⟩ 1 none) = true)
    (d0 : decode cc 0 = .ok (.aload_n 0, 1)) (d1 : decode cc 1 = .ok (.invokespecial idx, 3)) (hf : 1 ≤ R.frames) (hlo : 12 ≤ R.locals) (kk : W p l e R s m args below meth c H locs cells slots Q (F0 m 4 ls [])) : W p l e R s m args below meth c H locs cells slots Q (F0 m 0 ls []) := by
  obtain ⟨hx, hb, hown, hts, -, -, hl0, -, -, hml⟩ := hC
  refine lv_aload_n (i := 0) hx hb d0 rfl hl0 ?_
  exact W.objInit hx hb hown (hts _ (wd_in h1)) (hts _ (wd_in h2)) (hts _ (wd_in h3)) rfl hml.symm rfl d1 hf (by show 2 * 0 + 0 + 12 ≤ R.locals; omega) kk
/-- this.f = v -/
theorem C_ci (hC : CX p s m args meth c cc ls D cT A own h0 ci N T) (pc lam : Nat) {idx k i : Nat} {v : Int32} {ty : FieldType} {nm ds : String} {fin : Bool} (d0 : decode cc pc = .ok (.aload_n 0, 1)) (d1 : PU cc (pc + 1) lam v) (d2 : decode cc (pc + 1 + lam) = .ok (.putfield idx, 3))
    (hk : k < N) (hT : T k = (own, nm, ds, fin)) (hw : wd lw_tbl i (.fieldLink own idx own nm ds) = true) (hd : parseFieldDescriptor ds = some ty) (hn : narrow ty (.int v) = .int v) (hf : fits ty (.int v) = true) (hl : fs.length = N)
    (hP : va_P D kCl ((h0, .inr (ci, fs)) :: ws) H) (hD : va_D A ((h0, .inr (ci, fs)) :: ws)) (hS : va_S A s.heap H locs)
    (kk : (fs.set k (.int v)).length = N → ∀ (H1 : Heap) (locs1 : List Loc), va_P D kCl ((h0, .inr (ci, fs.set k (.int v))) :: ws) H1 → va_D A ((h0, .inr (ci, fs.set k (.int v))) :: ws) → va_S A s.heap H1 locs1 → W p l e R s m args below meth c H1 locs1 cells slots Q (F0 m (pc + 1 + lam + 3) ls [])) :
    W p l e R s m args below meth c H locs cells slots Q (F0 m pc ls []) :=
  lv_aload_n (i := 0) hC.1 hC.2.1 d0 rfl hC.2.2.2.2.2.2.1 (PU.go hC.1 hC.2.1 d1 (C_put hC hk hT hw hd hn hf (hl ▸ hk) d2 hP hD hS (kk (by rw [List.length_set]; exact hl))))
theorem C_cl (hC : CX p s m args meth c cc ls D cT A own h0 ci N T) (pc lam : Nat) {idx k i : Nat} {v : Int64} {nm : String} {fin : Bool} (d0 : decode cc pc = .ok (.aload_n 0, 1)) (d1 : PL cc own (pc + 1) lam v) (d2 : decode cc (pc + 1 + lam) = .ok (.putfield idx, 3))
    (hk : k < N) (hT : T k = (own, nm, "J", fin)) (hw : wd lw_tbl i (.fieldLink own idx own nm "J") = true) (hl : fs.length = N)
    (hP : va_P D kCl ((h0, .inr (ci, fs)) :: ws) H) (hD : va_D A ((h0, .inr (ci, fs)) :: ws)) (hS : va_S A s.heap H locs)
    (kk : (fs.set k (.long v)).length = N → ∀ (H1 : Heap) (locs1 : List Loc), va_P D kCl ((h0, .inr (ci, fs.set k (.long v))) :: ws) H1 → va_D A ((h0, .inr (ci, fs.set k (.long v))) :: ws) → va_S A s.heap H1 locs1 → W p l e R s m args below meth c H1 locs1 cells slots Q (F0 m (pc + 1 + lam + 3) ls [])) :
    W p l e R s m args below meth c H locs cells slots Q (F0 m pc ls []) :=
  lv_aload_n (i := 0) hC.1 hC.2.1 d0 rfl hC.2.2.2.2.2.2.1 (PL.go hC.1 hC.2.1 hC.2.2.1 hC.2.2.2.1 d1 (C_put (ty := .long) hC hk hT hw (by decide +kernel) rfl rfl (hl ▸ hk) d2 hP hD hS (kk (by rw [List.length_set]; exact hl))))
theorem cT_one {ty : FieldType} {t cA cB : Nat} (hK : va_K D kCl (cT ++ [(cA, ty)]) s) (ht : cT[t]? = some (cB, ty)) (hp : ∀ C, ty ≠ .object C) : cA = cB := by
  have h1 := (hK.2 cT.length (cA, ty) (by simp)).2
  have h2 := (hK.2 t (cB, ty) (by rw [List.getElem?_append_left (List.getElem?_eq_some_iff.mp ht).1]; exact ht)).2
  cases ty with
  | object C => exact absurd rfl (hp C)
  | _ => exact Option.some.inj (Eq.trans (Eq.symm h1) h2)
/-- a new row on the stack -/
theorem C_na (hC : CX p s m args meth c cc ls D cT A own h0 ci N T) {pc N' t i : Nat} {n : Int32} {atype : ArrayType} {ty : FieldType} {cA : ClassId} {a0 : vp_A} (hdg : decode cc pc = .ok (.newarray atype, 2)) (hw : wd lw_tbl i (.arrayClass (newarray.typeOf atype)) = true) (hty : newarray.typeOf atype = ty) (ht : cT[t]? = some (cA, ty)) (hp : ∀ C, ty ≠ .object C)
    (ha : ∀ cA : ClassId, vp_cell cA (N', a0.2) = arrV cA N' (fun _ => defaultValue ty)) (h1 : a0.1 = N') (hn : ¬ n < 0) (hN : n.toNatClampNeg = N') (hby : N' * componentBytes ty ≤ 536870912) (hce : cells + 1 ≤ R.cells) (hsl : slots + N' ≤ R.slots)
    (hP : va_P D kCl ws H) (hD : va_D A ws) (hS : va_S A s.heap H locs)
    (kk : ∀ (q : Nat) (H1 : Heap), va_P D kCl (ws ++ [(q, .inl (cA, a0))]) H1 → va_D A (ws ++ [(q, .inl (cA, a0))]) → va_S A s.heap H1 locs → W p l e R s m args below meth c H1 locs (cells + 1) (slots + N') Q (F0 m (pc + 2) ls (.ref q :: rest))) :
    W p l e R s m args below meth c H locs cells slots Q (F0 m pc ls (.int n :: rest)) := by
  obtain ⟨a1, a2⟩ := a0
  subst h1
  exact va_newa hC.1 hC.2.1 (atype := atype) (hC.2.2.2.1 _ (wd_in hw)) hty hC.2.2.2.2.2.1 hP hD hS hC.2.2.2.2.2.2.2.2.1 ha hn hN hby hce hsl hdg fun q cA' H1 hK1 hP1 hD1 hS1 => by
    obtain rfl := cT_one hK1 ht hp
    exact kk q H1 hP1 hD1 hS1
/-- this.f = new T[n] -/
theorem C_nf (hC : CX p s m args meth c cc ls D cT A own h0 ci N T) (pc lam : Nat) {idx k i i2 N' t : Nat} {n : Int32} {atype : ArrayType} {ty : FieldType} {cA : ClassId} {a0 : vp_A} {nm ds : String} {fin : Bool} (d0 : decode cc pc = .ok (.aload_n 0, 1)) (d1 : PU cc (pc + 1) lam n) (d2 : decode cc (pc + 1 + lam) = .ok (.newarray atype, 2)) (d3 : decode cc (pc + 1 + lam + 2) = .ok (.putfield idx, 3))
    (hw2 : wd lw_tbl i2 (.arrayClass (newarray.typeOf atype)) = true) (hty : newarray.typeOf atype = ty) (ht : cT[t]? = some (cA, ty)) (hp : ∀ C, ty ≠ .object C) (ha : ∀ cA : ClassId, vp_cell cA (N', a0.2) = arrV cA N' (fun _ => defaultValue ty)) (h1 : a0.1 = N') (hn : ¬ n < 0) (hN : n.toNatClampNeg = N') (hby : N' * componentBytes ty ≤ 536870912)
    (hk : k < N) (hT : T k = (own, nm, ds, fin)) (hw : wd lw_tbl i (.fieldLink own idx own nm ds) = true) (hd : parseFieldDescriptor ds = some (.array ty)) (hl : fs.length = N) (hce : cells + 1 ≤ R.cells) (hsl : slots + N' ≤ R.slots)
    (hP : va_P D kCl ((h0, .inr (ci, fs)) :: ws) H) (hD : va_D A ((h0, .inr (ci, fs)) :: ws)) (hS : va_S A s.heap H locs)
    (kk : ∀ (q : Nat), (fs.set k (.ref q)).length = N → ∀ (H1 : Heap) (locs1 : List Loc), va_P D kCl ((h0, .inr (ci, fs.set k (.ref q))) :: (ws ++ [(q, .inl (cA, a0))])) H1 → va_D A ((h0, .inr (ci, fs.set k (.ref q))) :: (ws ++ [(q, .inl (cA, a0))])) → va_S A s.heap H1 locs1 → W p l e R s m args below meth c H1 locs1 (cells + 1) (slots + N') Q (F0 m (pc + 1 + lam + 2 + 3) ls [])) :
    W p l e R s m args below meth c H locs cells slots Q (F0 m pc ls []) :=
  lv_aload_n (i := 0) hC.1 hC.2.1 d0 rfl hC.2.2.2.2.2.2.1 (PU.go hC.1 hC.2.1 d1 (C_na hC d2 hw2 hty ht hp ha h1 hn hN hby hce hsl hP hD hS fun q H1 hP1 hD1 hS1 =>
    C_put (v := .ref q) hC hk hT hw hd rfl rfl (hl ▸ hk) d3 hP1 hD1 hS1 (fun H2 locs2 hP2 hD2 hS2 => kk q (by rw [List.length_set]; exact hl) H2 locs2 hP2 hD2 hS2)))
/-- this.f = new C() -/
theorem C_nw (hC : CX p s m args meth c cc ls D cT A own h0 ci N T) (hAO : CN s) (pc : Nat) {idx idx2 idx3 k i1 i2 i3 i4 i5 i6 i7 ci2 fr lo mc ms N2 : Nat} {C2 nm ds : String} {T2 : u_T} {y : MethodName} {bytes : ByteArray} {z : List Value} {w2 : (Nat → Nat) → va_W} {fin : Bool} (hM : CON l D cT ci2 y bytes z w2 fr lo mc ms)
    (d0 : decode cc pc = .ok (.aload_n 0, 1)) (d1 : decode cc (pc + 1) = .ok (.new idx, 3)) (d2 : decode cc (pc + 4) = .ok (.dup, 1)) (d3 : decode cc (pc + 5) = .ok (.invokespecial idx2, 3)) (d4 : decode cc (pc + 8) = .ok (.putfield idx3, 3))
    (hc2 : kCl[ci2]? = some (C2, T2, N2)) (w1 : wd lw_tbl i1 (.classLink own idx C2) = true) (w2' : wd lw_tbl i2 (.instantiable C2 N2) = true) (w3 : wd lw_tbl i3 (.initialized C2) = true) (w4 : wd lw_tbl i4 (.methodLink own idx2 y) = true) (w5 : wd lw_tbl i5 (.instanceMethod y) = true) (w6 : wd lw_tbl i6 (.code y bytes 1 none) = true)
    (hy : y.cls = C2 ∧ y.name = "<init>") (hyd : y.cls ≠ "java/lang/invoke/MethodHandle" ∧ y.cls ≠ "java/lang/invoke/VarHandle" ∧ (parseMethodDescriptor y.desc).map (fun d => d.parameters.length) = some 0)
    (hz : ∀ ty : Nat → FieldType, (∀ k, k < N2 → parseFieldDescriptor (T2 k).2.2.1 = some (ty k)) → ∀ j, j < N2 → defaultValue (ty j) = vp_V z j)
    (hk : k < N) (hT : T k = (own, nm, ds, fin)) (hw : wd lw_tbl i7 (.fieldLink own idx3 own nm ds) = true) (hd : parseFieldDescriptor ds = some (.object C2)) (hl : fs.length = N) (hfr : fr + 1 ≤ R.frames) (hlo : 8 + (1 + 11) + lo ≤ R.locals) (hce : cells + 1 + mc ≤ R.cells) (hsl : slots + N2 + ms ≤ R.slots)
    (hP : va_P D kCl ((h0, .inr (ci, fs)) :: ws) H) (hD : va_D A ((h0, .inr (ci, fs)) :: ws)) (hS : va_S A s.heap H locs)
    (kk : ∀ (g : Nat → Nat), (fs.set k (.ref (g 0))).length = N → ∀ (H1 : Heap) (locs1 : List Loc), va_P D kCl ((h0, .inr (ci, fs.set k (.ref (g 0)))) :: (ws ++ w2 g)) H1 → va_D A ((h0, .inr (ci, fs.set k (.ref (g 0)))) :: (ws ++ w2 g)) → va_S A s.heap H1 locs1 → W p l e R s m args below meth c H1 locs1 (cells + 1 + mc) (slots + N2 + ms) Q (F0 m (pc + 11) ls [])) :
    W p l e R s m args below meth c H locs cells slots Q (F0 m pc ls []) := by
  have hC0 := hC
  obtain ⟨hx, hb, hown, hts, hin, hK, hl0, hc, hA, hml⟩ := hC
  obtain ⟨g1, ⟨ty0, g2⟩, -⟩ := kCY ci2 C2 T2 N2 hc2
  obtain ⟨hy1, hy2⟩ := hy
  refine lv_aload_n (i := 0) hx hb d0 rfl hl0 ?_
  refine va_new (ci := ci2) (fs := z) (C := C2) (T := T2) (N := N2) hx hb hts g1 ty0 g2 hown (hts _ (wd_in w1)) (hts _ (wd_in w2')) (hts _ (wd_in w3)) hK hP hD hS hA hc2 (hz ty0 g2) (by omega) (by omega) d1 (fun q H1 hP hD hS => ?_)
  refine lv_dup hx hb d2 rfl ?_
  have hPc := hP.sub (ws' := [(q, .inr (ci2, z))]) [((h0, .inr (ci, fs)) :: ws : va_W).length] (last_sub _ _)
  have hDc := hD.sub (ws' := [(q, .inr (ci2, z))]) [((h0, .inr (ci, fs)) :: ws : va_W).length] (va_nd_of (by simp)) (last_get _ _)
  have hFc := va_free (wc := [(q, .inr (ci2, z))]) hD hS hA [((h0, .inr (ci, fs)) :: ws : va_W).length] (last_get _ _)
  refine va_callv (va_runI (y := y) (b := q) (As := []) (rest := [.ref q, .ref h0]) ⟨hx, hb, hml, hown, hts⟩ (hM q H1.size) (cwI 0 hts (good_tb (wd_in w6)) rfl rfl rfl (by rw [hy1]; exact hts _ (wd_in w3)) (hts _ (wd_in w4)) (hts _ (wd_in w5)) hy2 hyd ⟨hfr, hlo⟩) ⟨fun a U g mk q => by obtain ⟨q0, q1, qP, qK, qD, qA⟩ := q; exact ⟨q0, q1, qP, va_K.moved (u := U) (U := U.calling g mk a) (Vm.Alike.refl U.vm) qK, qD, CN.moved (U := U.calling g mk a) (State.WarmedH.refl U) qA⟩, fun U hU hW => ⟨rfl, by rw [hU], by rw [hU]; exact hPc, va_K.moved hW.alike hK, hDc.weaken (fun _ _ _ _ => trivial), CN.moved hW hAO⟩⟩ rfl rfl rfl rfl (lv_room (Nat.le_of_ble_eq_true rfl)) d3 ⟨hce, hsl⟩) hS (fun q _ h => hFc q h) hFc (fun g t H2 locs2 ht hvm hg hB hz1 hk1 hS => ?_)
  obtain ⟨hP1, hD1⟩ := hB
  rw [ht] at hP1
  obtain ⟨hP4, hD4⟩ := join_last hP hD hk1 hFc hP1 hD1
  have hg0 : g 0 = q := hg
  subst hg0
  exact C_put (v := .ref (g 0)) hC0 hk hT hw hd rfl rfl (hl ▸ hk) d4 hP4 hD4 hS (fun H3 locs3 hP3 hD3 hS3 => kk g (by rw [List.length_set]; exact hl) H3 locs3 hP3 hD3 hS3)
/-- this.f = new C(), a nest mate -/
theorem C_nn (hC : CX p s m args meth c cc ls D cT A own h0 ci N T) (hAO : CN s) (pc : Nat) {idx idx2 idx3 k i1 i2 i3 i4 i5 i6 i7 ci2 fr lo mc ms N2 : Nat} {C2 nm ds host : String} {T2 : u_T} {y : MethodName} {bytes : ByteArray} {z : List Value} {w2 : (Nat → Nat) → va_W} {fin : Bool} (hM : CON l D cT ci2 y bytes z w2 fr lo mc ms)
    (d0 : decode cc pc = .ok (.aload_n 0, 1)) (d1 : decode cc (pc + 1) = .ok (.new idx, 3)) (d2 : decode cc (pc + 4) = .ok (.dup, 1)) (d3 : decode cc (pc + 5) = .ok (.invokespecial idx2, 3)) (d4 : decode cc (pc + 8) = .ok (.putfield idx3, 3))
    (hc2 : kCl[ci2]? = some (C2, T2, N2)) (w1 : wd lw_tbl i1 (.classLink own idx C2) = true) (w2' : wd lw_tbl i2 (.instantiable C2 N2) = true) (w3 : wd lw_tbl i3 (.initialized C2) = true) (w4 : cNs[i4]? = some (own, idx2, y, host)) (w5 : wd lw_tbl i5 (.instanceMethod y) = true) (w6 : wd lw_tbl i6 (.code y bytes 1 none) = true)
    (hy : y.cls = C2 ∧ y.name = "<init>") (hyd : y.cls ≠ "java/lang/invoke/MethodHandle" ∧ y.cls ≠ "java/lang/invoke/VarHandle" ∧ (parseMethodDescriptor y.desc).map (fun d => d.parameters.length) = some 0)
    (hz : ∀ ty : Nat → FieldType, (∀ k, k < N2 → parseFieldDescriptor (T2 k).2.2.1 = some (ty k)) → ∀ j, j < N2 → defaultValue (ty j) = vp_V z j)
    (hk : k < N) (hT : T k = (own, nm, ds, fin)) (hw : wd lw_tbl i7 (.fieldLink own idx3 own nm ds) = true) (hd : parseFieldDescriptor ds = some (.object C2)) (hl : fs.length = N) (hfr : fr + 1 ≤ R.frames) (hlo : 8 + (1 + 11) + lo ≤ R.locals) (hce : cells + 1 + mc ≤ R.cells) (hsl : slots + N2 + ms ≤ R.slots)
    (hP : va_P D kCl ((h0, .inr (ci, fs)) :: ws) H) (hD : va_D A ((h0, .inr (ci, fs)) :: ws)) (hS : va_S A s.heap H locs)
    (kk : ∀ (g : Nat → Nat), (fs.set k (.ref (g 0))).length = N → ∀ (H1 : Heap) (locs1 : List Loc), va_P D kCl ((h0, .inr (ci, fs.set k (.ref (g 0)))) :: (ws ++ w2 g)) H1 → va_D A ((h0, .inr (ci, fs.set k (.ref (g 0)))) :: (ws ++ w2 g)) → va_S A s.heap H1 locs1 → W p l e R s m args below meth c H1 locs1 (cells + 1 + mc) (slots + N2 + ms) Q (F0 m (pc + 11) ls [])) :
    W p l e R s m args below meth c H locs cells slots Q (F0 m pc ls []) := by
  have hC0 := hC
  obtain ⟨hx, hb, hown, hts, hin, hK, hl0, hc, hA, hml⟩ := hC
  obtain ⟨g1, ⟨ty0, g2⟩, -⟩ := kCY ci2 C2 T2 N2 hc2
  obtain ⟨hy1, hy2⟩ := hy
  refine lv_aload_n (i := 0) hx hb d0 rfl hl0 ?_
  refine va_new (ci := ci2) (fs := z) (C := C2) (T := T2) (N := N2) hx hb hts g1 ty0 g2 hown (hts _ (wd_in w1)) (hts _ (wd_in w2')) (hts _ (wd_in w3)) hK hP hD hS hA hc2 (hz ty0 g2) (by omega) (by omega) d1 (fun q H1 hP hD hS => ?_)
  refine lv_dup hx hb d2 rfl ?_
  have hPc := hP.sub (ws' := [(q, .inr (ci2, z))]) [((h0, .inr (ci, fs)) :: ws : va_W).length] (last_sub _ _)
  have hDc := hD.sub (ws' := [(q, .inr (ci2, z))]) [((h0, .inr (ci, fs)) :: ws : va_W).length] (va_nd_of (by simp)) (last_get _ _)
  have hFc := va_free (wc := [(q, .inr (ci2, z))]) hD hS hA [((h0, .inr (ci, fs)) :: ws : va_W).length] (last_get _ _)
  refine va_callv (va_runIN (y := y) (host := host) (b := q) (As := []) (rest := [.ref q, .ref h0]) ⟨hx, hb, hml, hown, hts⟩ (hM q H1.size) ⟨va_cnB 0 hts (good_tb (wd_in w6)) rfl rfl rfl (hAO.2 _ (List.mem_of_getElem? w4)) (by rw [hy1]; exact hts _ (wd_in w3)) hyd ⟨hfr, hlo⟩, hy2, hts _ (wd_in w5)⟩ ⟨fun a U g mk q => by obtain ⟨q0, q1, qP, qK, qD, qA⟩ := q; exact ⟨q0, q1, qP, va_K.moved (u := U) (U := U.calling g mk a) (Vm.Alike.refl U.vm) qK, qD, CN.moved (U := U.calling g mk a) (State.WarmedH.refl U) qA⟩, fun U hU hW => ⟨rfl, by rw [hU], by rw [hU]; exact hPc, va_K.moved hW.alike hK, hDc.weaken (fun _ _ _ _ => trivial), CN.moved hW hAO⟩⟩ rfl rfl rfl rfl (lv_room (Nat.le_of_ble_eq_true rfl)) d3 ⟨hce, hsl⟩) hS (fun q _ h => hFc q h) hFc (fun g t H2 locs2 ht hvm hg hB hz1 hk1 hS => ?_)
  obtain ⟨hP1, hD1⟩ := hB
  rw [ht] at hP1
  obtain ⟨hP4, hD4⟩ := join_last hP hD hk1 hFc hP1 hD1
  have hg0 : g 0 = q := hg
  subst hg0
  exact C_put (v := .ref (g 0)) hC0 hk hT hw hd rfl rfl (hl ▸ hk) d4 hP4 hD4 hS (fun H3 locs3 hP3 hD3 hS3 => kk g (by rw [List.length_set]; exact hl) H3 locs3 hP3 hD3 hS3)
/-- this.f[0] = v -/
theorem C_gl (hC : CX p s m args meth c cc ls D cT A own h0 ci N T) (pc lam : Nat) {idx k i j t n a : Nat} {v : Int64} {nm : String} {fin : Bool} {cA : ClassId} {f : Nat → Int64} (d0 : decode cc pc = .ok (.aload_n 0, 1)) (d1 : decode cc (pc + 1) = .ok (.getfield idx, 3)) (d2 : decode cc (pc + 4) = .ok (.iconst 0, 1)) (d3 : PL cc own (pc + 5) lam v) (d4 : decode cc (pc + 5 + lam) = .ok (.lastore, 1))
    (hk : k < N) (hT : T k = (own, nm, "[J", fin)) (hw : wd lw_tbl i (.fieldLink own idx own nm "[J") = true) (hv : fs[k]? = some (.ref a)) (ha : ws[j]? = some (a, .inl (cA, n, .inr (.inl f)))) (ht : cT[t]? = some (cA, .long)) (hin : vp_in 0 n)
    (hP : va_P D kCl ((h0, .inr (ci, fs)) :: ws) H) (hD : va_D A ((h0, .inr (ci, fs)) :: ws)) (hS : va_S A s.heap H locs)
    (kk : ∀ (H1 : Heap) (locs1 : List Loc), va_P D kCl ((h0, .inr (ci, fs)) :: ws.set j (a, .inl (cA, n, .inr (.inl (vp_updL f (Int32.toNatClampNeg 0) v))))) H1 → va_D A ((h0, .inr (ci, fs)) :: ws.set j (a, .inl (cA, n, .inr (.inl (vp_updL f (Int32.toNatClampNeg 0) v))))) → va_S A s.heap H1 locs1 → W p l e R s m args below meth c H1 locs1 cells slots Q (F0 m (pc + 5 + lam + 1) ls [])) :
    W p l e R s m args below meth c H locs cells slots Q (F0 m pc ls []) := by
  obtain ⟨hx, hb, hown, hts, -, hK, hl0, hc, hA, -⟩ := hC
  obtain ⟨g1, -, -⟩ := kCY ci own T N hc
  have hlink : (Cond.fieldLink own idx own (T k).2.1 (T k).2.2.1).before args s = true := by rw [hT]; exact hts _ (wd_in hw)
  have hsame : ∀ x, s.fieldFound? (T k).1 (T k).2.1 (T k).2.2.1 = some x → s.fieldFound? own (T k).2.1 (T k).2.2.1 = some x := by rw [hT]; exact fun x h => h
  refine lv_aload_n (i := 0) hx hb d0 rfl hl0 ?_
  refine va_get (ci := ci) (C := own) (T := T) (N := N) hx hb hts g1 hown hK hP 0 rfl hc k hk hlink hsame hv d1 ?_
  refine lv_iconst (v := 0) hx hb d2 (by decide) ?_
  refine PL.go hx hb hown hts d3 ?_
  exact va_last hx hb hK hP hD hS (j + 1) t ha ht hin d4 kk
end Con
/-- a constructor's body is enough -/
theorem CONG_of {X : (Nat → Prop) → State → Prop} {l : Launch} {D : va_G} {cT : List (ClassId × FieldType)} {ci : Nat} {y : MethodName} {bytes : ByteArray} {z : List Value} {w : (Nat → Nat) → va_W} {fr lo mc ms : Nat} {own : String} {T : u_T} {N : Nat} (hpl : plainName y.cls = true) (hown : y.cls = own) (hnm : y.name = "<init>") (hci : kCl[ci]? = some (own, T, N))
    (h : ∀ (p : Program) (e : Env) (s : State) (m : MethodId) (args : Array Value) (below : List Frame) (meth : Method) (c : Code) (Q : State → Prop) (ls : Array Slot) (A : Nat → Prop) (h0 : Nat), CX p s m args meth c bytes ls D cT A own h0 ci N T → X A s → va_P D kCl [(h0, .inr (ci, z))] s.heap → va_D A [(h0, .inr (ci, z))] → va_S A s.heap s.heap [] →
      (∀ (g : Nat → Nat) (H1 : Heap) (locs1 : List Loc), g 0 = h0 → va_P D kCl (w g) H1 → va_D A (w g) → va_S A s.heap H1 locs1 → ∀ (pc : Nat) (ls1 : Array Slot), decode bytes pc = .ok (.return_, 1) → W p l e { frames := fr, cells := mc, slots := ms, locals := lo } s m args below meth c H1 locs1 mc ms Q (F0 m pc ls1 [])) →
      W p l e { frames := fr, cells := mc, slots := ms, locals := lo } s m args below meth c s.heap [] 0 0 Q (F0 m 0 ls [])) : CONG X l D cT ci y bytes z w fr lo mc ms := by
  intro h0 sz
  subst hown
  refine Met.ofW (cc := bytes) (maxL := 1) (ret := none) hpl rfl ?_
  intro p e s m args below meth c s₁ B hml hv
  obtain ⟨rfl, hsz, hP, hK, hD0, hAO⟩ := hv
  have hx := B.exec
  have hb := B.bytes
  have hr := B.returns
  have hts := atoms_spec (ws := Cond.code y bytes 1 none :: lw_tbl.filter goodWord) B.pre
  have hfc : s.vm.findClass y.cls = some m.cls := findClass_of_methodNamed B.named
  have hlocks := B.notSynchronized
  have hin : meth.name = "<init>" := (name_of_methodNamed B.named B.method).1.trans hnm
  subst hsz
  have hD := hD0.self (sz := s.heap.size)
  generalize hAe : va_A [(h0, .inr (ci, z))] s.heap.size = A at hD hAO ⊢
  have hA : ∀ q : Nat, s.heap.size ≤ q → A q := fun q h => by rw [← hAe]; exact Or.inr h
  have hl := lv_entry ([.ref h0]) (n := 1) (Nat.le_of_ble_eq_true rfl)
  rw [lg_entry_eq]
  generalize (lg_sl ([.ref h0]) ++ List.replicate (1 - (lg_sl ([.ref h0])).length) Slot.unset).toArray = ls at hl ⊢
  have hl : lv_has ls 1 [(0, .ref h0)] := hl
  refine h p e s m _ below meth c _ ls A h0 ⟨hx, hb, hfc, fun w hw => hts w (List.mem_cons_of_mem _ hw), hin, hK, lv_at hl 0 rfl, hci, hA, hml.trans hl.1.symm⟩ hAO hP hD va_S.rf ?_
  intro g H1 locs1 hg hP1 hD1 hS1 pc ls1 hd
  exact W.vret hx hb hr (fun t ht hW => ⟨⟨g, rfl, hg, by rw [ht]; exact hP1, hD1⟩, hS1.F ht⟩) hS1.2.2 hd

theorem CON_of {l : Launch} {D : va_G} {cT : List (ClassId × FieldType)} {ci : Nat} {y : MethodName} {bytes : ByteArray} {z : List Value} {w : (Nat → Nat) → va_W} {fr lo mc ms : Nat} {own : String} {T : u_T} {N : Nat} (hpl : plainName y.cls = true) (hown : y.cls = own) (hnm : y.name = "<init>") (hci : kCl[ci]? = some (own, T, N))
    (h : ∀ (p : Program) (e : Env) (s : State) (m : MethodId) (args : Array Value) (below : List Frame) (meth : Method) (c : Code) (Q : State → Prop) (ls : Array Slot) (A : Nat → Prop) (h0 : Nat), CX p s m args meth c bytes ls D cT A own h0 ci N T → CN s → va_P D kCl [(h0, .inr (ci, z))] s.heap → va_D A [(h0, .inr (ci, z))] → va_S A s.heap s.heap [] →
      (∀ (g : Nat → Nat) (H1 : Heap) (locs1 : List Loc), g 0 = h0 → va_P D kCl (w g) H1 → va_D A (w g) → va_S A s.heap H1 locs1 → ∀ (pc : Nat) (ls1 : Array Slot), decode bytes pc = .ok (.return_, 1) → W p l e { frames := fr, cells := mc, slots := ms, locals := lo } s m args below meth c H1 locs1 mc ms Q (F0 m pc ls1 [])) →
      W p l e { frames := fr, cells := mc, slots := ms, locals := lo } s m args below meth c s.heap [] 0 0 Q (F0 m 0 ls [])) : CON l D cT ci y bytes z w fr lo mc ms := CONG_of hpl hown hnm hci h
