/-! ===== from a run of the small machine to the machine ===== -/
section Calls0
variable {sh : Shp} {sc : Sct} {M : List MI} {big nsl : List Cond} {sts : List (String × Nat × String × Nat)} {cl : List vw_C} {pos : List Nat} {D : va_G} {cT : List (ClassId × FieldType)} {ad : Nat → Nat} {Hb : Heap} {XT : State → Prop}
theorem entL_len (ad : Nat → Nat) : ∀ as : List Value, (entL as).length = (lg_sl (as.map (cv ad))).length
  | [] => rfl
  | v :: r => by
    have ih := entL_len ad r
    cases v <;> simp_all [entL, lg_sl, cv, Value.category] <;> omega
theorem entL_mem (ad : Nat → Nat) : ∀ (as : List Value) (i j : Nat) (v : Value), (entL as)[i]? = some (some v) → (j + i, cv ad v) ∈ lv_args j (as.map (cv ad))
  | [], i, j, v, h => by simp [entL] at h
  | w :: r, i, j, v, h => by
    have two : ∀ x : Value, (cv ad x).category = 2 → (some x :: none :: entL r)[i]? = some (some v) → (j + i, cv ad v) ∈ lv_args j ((x :: r).map (cv ad)) := by
      intro x hx h
      show _ ∈ (j, cv ad x) :: lv_args (if (cv ad x).category = 2 then j + 2 else j + 1) (r.map (cv ad))
      rw [if_pos hx]
      match i, h with
      | 0, h => cases h; exact List.mem_cons_self
      | 1, h => simp at h
      | i + 2, h =>
        have := entL_mem ad r i (j + 2) v h
        rw [show j + (i + 2) = j + 2 + i by omega]
        exact List.mem_cons_of_mem _ this
    have one : ∀ x : Value, (cv ad x).category ≠ 2 → (some x :: entL r)[i]? = some (some v) → (j + i, cv ad v) ∈ lv_args j ((x :: r).map (cv ad)) := by
      intro x hx h
      show _ ∈ (j, cv ad x) :: lv_args (if (cv ad x).category = 2 then j + 2 else j + 1) (r.map (cv ad))
      rw [if_neg hx]
      match i, h with
      | 0, h => cases h; exact List.mem_cons_self
      | i + 1, h =>
        have := entL_mem ad r i (j + 1) v h
        rw [show j + (i + 1) = j + 1 + i by omega]
        exact List.mem_cons_of_mem _ this
    cases w with
    | long x => exact two _ rfl h
    | double x => exact two _ rfl h
    | int x => exact one _ (by show ¬ (1 = 2); decide) h
    | float x => exact one _ (by show ¬ (1 = 2); decide) h
    | null => exact one _ (by show ¬ (1 = 2); decide) h
    | ref x => exact one _ (by show ¬ (1 = 2); decide) h
    | retAddr x => exact one _ (by show ¬ (1 = 2); decide) h
theorem ent_LH (ad : Nat → Nat) {as : List Value} {n : Nat} (h : (entL as).length ≤ n) : LH ad ((lg_sl (as.map (cv ad)) ++ List.replicate (n - (lg_sl (as.map (cv ad))).length) Slot.unset).toArray) n (ent n as) := by
  have h2 := h
  rw [entL_len ad] at h2
  refine ⟨by simp [ent]; omega, (lv_entry (as.map (cv ad)) h2).mono fun q hq => ?_⟩
  obtain ⟨i, w⟩ := q
  obtain ⟨v, hv, rfl⟩ := mem_alo.mp hq
  unfold ent at hv
  have hlt : i < (entL as).length := by
    rcases Nat.lt_or_ge i (entL as).length with q | q
    · exact q
    · rw [List.getElem?_append_right q, List.getElem?_replicate] at hv
      split at hv <;> cases hv
  rw [List.getElem?_append_left hlt] at hv
  have := entL_mem ad as i 0 v hv
  rwa [Nat.zero_add] at this
theorem good_tb {w : Cond} (h : w ∈ big.filter goodWord) : GoodIn (big.filter goodWord) (w :: big.filter goodWord) := by
  intro x hx
  have hm : x ∈ big.filter goodWord := by
    rcases List.mem_cons.mp hx with rfl | hx
    · exact h
    · exact hx
  exact ⟨hm, good_of_word (List.mem_filter.mp hm).2⟩
theorem ifin_at {mi : MI} (hck : chkM M big nsl sts cl mi = true) {pc : Nat} {st : List Value} {v : Option Value} (h : ifin mi pc st = some (.inl v)) :
    (∃ x, st = [.int x] ∧ v = some (.int x) ∧ mi.ret = some .int ∧ decode mi.bytes pc = .ok (.ireturn, 1)) ∨ (∃ x, st = [.int x] ∧ v = some (.int x) ∧ mi.ret = some .boolean ∧ (x = 0 ∨ x = 1) ∧ decode mi.bytes pc = .ok (.ireturn, 1)) ∨
    (∃ x, st = [.long x] ∧ v = some (.long x) ∧ mi.ret = some .long ∧ decode mi.bytes pc = .ok (.lreturn, 1)) ∨ (st = [] ∧ v = none ∧ mi.ret = none ∧ decode mi.bytes pc = .ok (.return_, 1)) := by
  unfold ifin at h
  cases hc : mi.code pc with
  | none => rw [hc] at h; cases h
  | some ent =>
    rw [hc] at h
    have hk := chk_at M big nsl sts cl hck hc
    obtain ⟨ins, len, a, b, w⟩ := ent
    unfold chkE at hk
    rw [Bool.and_eq_true] at hk
    obtain ⟨hd0, hk⟩ := hk
    have hd := of_decide_eq_true hd0
    cases ins with
    | ireturn =>
      dsimp only at h hk hd
      obtain rfl := len1 hk
      split at h
      · split at h
        · rename_i x hr; cases h; exact Or.inl ⟨_, rfl, rfl, hr, hd⟩
        · rename_i x hr
          obtain ⟨h1, h2⟩ := bif_at h
          cases h2; exact Or.inr (Or.inl ⟨_, rfl, rfl, hr, of_decide_eq_true h1, hd⟩)
        · cases h
      · cases h
    | lreturn =>
      dsimp only at h hk hd
      obtain rfl := len1 hk
      split at h
      · split at h
        · rename_i x hr; cases h; exact Or.inr (Or.inr (Or.inl ⟨_, rfl, rfl, hr, hd⟩))
        · cases h
      · cases h
    | return_ =>
      dsimp only at h hk hd
      obtain rfl := len1 hk
      split at h
      · split at h
        · rename_i hr; cases h; exact Or.inr (Or.inr (Or.inr ⟨rfl, rfl, hr, hd⟩))
        · cases h
      · cases h
    | new i =>
      dsimp only at h
      split at h
      · cases h
      · cases h
    | _ => dsimp only at h; cases h
theorem icall_at {mi : MI} {pc : Nat} {st : List Value} {kind y : Nat} {as rest : List Value} (h : icall mi pc st = some (kind, y, as, rest)) :
    ∃ ins len b, mi.code pc = some (ins, len, y, b, .retAddr kind) ∧ st = as.reverse ++ rest ∧ (rest.map Value.category).sum ≤ 8 ∧ ((∃ idx, ins = .invokestatic idx ∧ as.length = b) ∨ (∃ idx, ins = .invokevirtual idx ∧ as.length = b + 1)) := by
  unfold icall at h
  cases hc : mi.code pc with
  | none => rw [hc] at h; cases h
  | some ent =>
    rw [hc] at h
    obtain ⟨ins, len, a, b, w⟩ := ent
    dsimp only at h
    split at h
    · split at h
      · obtain ⟨h1, h2⟩ := bif_at h
        cases h2
        rw [Bool.and_eq_true] at h1
        have g1 := Nat.le_of_ble_eq_true h1.1
        refine ⟨_, _, _, rfl, by rw [List.reverse_reverse, List.take_append_drop], Nat.le_of_ble_eq_true h1.2, Or.inl ⟨_, rfl, ?_⟩⟩
        rw [List.length_reverse, List.length_take]; omega
      · obtain ⟨h1, h2⟩ := bif_at h
        cases h2
        rw [Bool.and_eq_true] at h1
        have g1 := Nat.le_of_ble_eq_true h1.1
        refine ⟨_, _, _, rfl, by rw [List.reverse_reverse, List.take_append_drop], Nat.le_of_ble_eq_true h1.2, Or.inr ⟨_, rfl, ?_⟩⟩
        rw [List.length_reverse, List.length_take]; omega
      · cases h
    · cases h
end Calls0
section Snd
variable (sh : Shp) (sc : Sct) (M : List MI) (big nsl : List Cond) (sts : List (String × Nat × String × Nat)) (cl : List vw_C) (pos : List Nat) (D : va_G) (cT : List (ClassId × FieldType)) (ad : Nat → Nat) (Hb : Heap) (XT : State → Prop) (l : Launch)
def rmD (d k : Nat) : Room := { frames := d, cells := k, slots := 6 * k, locals := 64 * d }
/-- a world in a heap -/
def WH (σ : St3) (H : Heap) : Prop := va_P D cl (wsO sh pos cT ad σ) H ∧ Hb.size ≤ H.size ∧ ∀ q : Nat, q < Hb.size → H[q]? = Hb[q]?
def Pcw (σ : St3) (as : List Value) : Array Value → State → Prop := fun a U => a = (as.map (cv ad)).toArray ∧ WD sh pos D cl cT ad Hb XT σ U U.heap
def Qcw (σ' : St3) (v : Option Value) : Array Value → State → Outcome → State → Prop := fun _ st o t => o = .returned (v.map (cv ad)) ∧ WH sh cl pos D cT ad Hb σ' t.heap ∧ va_F (AX Hb) st t
def Xcw (σ' : St3) (x : Nat) (xn : Nat → String) : String → State → State → Prop := fun E st t => E = xn x ∧ WH sh cl pos D cT ad Hb σ' t.heap ∧ va_F (AX Hb) st t
def tk (r : Res) : Nat := match r with
  | .inl _ => 0
  | .inr _ => 1
def BODY (n : Nat) : Prop := ∀ (d : Nat) (mi : MI) (pc : Nat) (L : Lo) (st : List Value) (σ σ' : St3) (r : Res) (k : Nat), exec sh sc M n d mi pc L st σ = some (r, σ', k) → mi ∈ M →
  ∀ (p : Program) (e : Env) (R : Room) (s : State) (m : MethodId) (args : Array Value) (below : List Frame) (meth : Method) (c : Code), p.tables.exec = Jvm.exec → c.code = mi.bytes → c.maxLocals = mi.maxL → s.vm.findClass mi.y.cls = some m.cls → (∀ w ∈ big.filter goodWord, w.before args s = true) →
    (Hb.size ≤ s.heap.size ∧ ∀ q : Nat, q < Hb.size → s.heap[q]? = Hb[q]?) → (mi.hh ≠ [] → c.exceptionTable.toList = tableOf mi.hh) → d ≤ R.frames → 64 * d ≤ R.locals →
  ∀ (H : Heap) (locs : List Loc) (cells slots : Nat) (ls : Array Slot) (Q : State → Prop), cells + k ≤ R.cells → slots + 6 * k ≤ R.slots → WD sh pos D cl cT ad Hb XT σ s H → va_S (AX Hb) s.heap H locs → LH ad ls mi.maxL L →
    (∀ (pc' : Nat) (st' : List Value) (H1 : Heap) (locs1 : List Loc) (cells1 slots1 : Nat) (ls1 : Array Slot), ifin mi pc' st' = some r → (tk r = 1 → 8 ≤ d) → WD sh pos D cl cT ad Hb XT σ' s H1 → va_S (AX Hb) s.heap H1 locs1 → ls1.size = mi.maxL → cells1 + tk r = cells + k → slots1 + 6 * tk r = slots + 6 * k →
      W p l e R s m args below meth c H1 locs1 cells1 slots1 Q (F0 m pc' ls1 (st'.map (cv ad)))) →
    W p l e R s m args below meth c H locs cells slots Q (F0 m pc ls (st.map (cv ad)))
variable {sh sc M big nsl sts cl pos D cT ad Hb XT l}
theorem WD_mv (hXw : ∀ s U : State, s.WarmedH U.vm → XT s → XT U) {σ : St3} {s U : State} {H : Heap} (hW : s.WarmedH U.vm) (h : WD sh pos D cl cT ad Hb XT σ s H) : WD sh pos D cl cT ad Hb XT σ U H :=
  ⟨h.1, va_K.moved hW.alike h.2.1, h.2.2.1, h.2.2.2.1, hXw s U hW h.2.2.2.2⟩
theorem Pcw_blind (hXw : ∀ s U : State, s.WarmedH U.vm → XT s → XT U) {σ : St3} {as : List Value} : FrameBlind (Pcw sh cl pos D cT ad Hb XT σ as) := fun a U g mk q => ⟨q.1, WD_mv (U := U.calling g mk a) hXw (State.WarmedH.refl U) q.2⟩
/-- a plain callee -/
theorem met_of {n d k : Nat} {my : MI} {as : List Value} {σ σ' : St3} {v : Option Value} (ih : BODY sh sc M big cl pos D cT ad Hb XT l n) (hM : my ∈ M) (hck : chkM M big nsl sts cl my = true) (hlen : (entL as).length ≤ my.maxL) (hhh : my.hh = [])
    (hpl : plainName my.y.cls = true) (h : exec sh sc M n d my 0 (ent my.maxL as) [] σ = some (.inl v, σ', k)) :
    Met l my.y (Cond.code my.y my.bytes my.maxL my.ret :: big.filter goodWord) (rmD d k) (Pcw sh cl pos D cT ad Hb XT σ as) (Qcw sh cl pos D cT ad Hb σ' v) k (6 * k) (AX Hb) := by
  refine Met.ofW (cc := my.bytes) (maxL := my.maxL) (ret := my.ret) hpl rfl ?_
  intro p e s m args below meth c s₁ B hml hv
  obtain ⟨rfl, hWD⟩ := hv
  have hts := atoms_spec (ws := Cond.code my.y my.bytes my.maxL my.ret :: big.filter goodWord) B.pre
  have hlocks := B.notSynchronized
  rw [lg_entry_eq]
  refine ih d my 0 (ent my.maxL as) [] σ σ' (.inl v) k h hM p e _ s m _ below meth c B.exec B.bytes hml (findClass_of_methodNamed B.named) (fun w hw => hts w (List.mem_cons_of_mem _ hw)) ⟨hWD.2.2.1, hWD.2.2.2.1⟩ (fun q => absurd hhh q) (Nat.le_refl _) (Nat.le_refl _) s.heap [] 0 0 _ _ (by show 0 + k ≤ k; omega) (by show 0 + 6 * k ≤ 6 * k; omega) hWD va_S.rf (ent_LH ad hlen) ?_
  intro pc' st' H1 locs1 cells1 slots1 ls1 hfin _ hW1 hS1 hsz hc1 hs1
  obtain rfl : cells1 = k := by simpa [tk] using hc1
  obtain rfl : slots1 = 6 * cells1 := by simpa [tk] using hs1
  have hb := B.bytes
  have hr := B.returns
  have hq : ∀ t : State, t.heap = H1 → s.WarmedH t.vm → Qcw sh cl pos D cT ad Hb σ' v (as.map (cv ad)).toArray s (.returned (v.map (cv ad))) t := by
    intro t ht hWm
    subst ht
    exact ⟨rfl, ⟨hW1.1, hW1.2.2.1, hW1.2.2.2.1⟩, hS1.F rfl⟩
  rcases ifin_at hck hfin with ⟨x, rfl, rfl, h1, h2⟩ | ⟨x, rfl, rfl, h1, h01, h2⟩ | ⟨x, rfl, rfl, h1, h2⟩ | ⟨rfl, rfl, h1, h2⟩
  · exact W.iret B.exec hb (hr.trans h1) hq hS1.2.2 h2
  · exact W.zret (ty := .boolean) B.exec hb (hr.trans h1) (by rcases h01 with rfl | rfl <;> rfl) hq hS1.2.2 h2
  · exact W.lret B.exec hb (hr.trans h1) hq hS1.2.2 h2
  · exact W.vret B.exec hb (hr.trans h1) hq hS1.2.2 h2
/-- a callee with handlers of its own that returns -/
theorem met_ofW {n d k : Nat} {my : MI} {as : List Value} {σ σ' : St3} {v : Option Value} (ih : BODY sh sc M big cl pos D cT ad Hb XT l n) (hM : my ∈ M) (hck : chkM M big nsl sts cl my = true) (hlen : (entL as).length ≤ my.maxL)
    (hpl : plainName my.y.cls = true) (h : exec sh sc M n d my 0 (ent my.maxL as) [] σ = some (.inl v, σ', k)) :
    Met l my.y (Cond.codeWith my.y my.bytes my.maxL my.ret my.hh :: big.filter goodWord) (rmD d k) (Pcw sh cl pos D cT ad Hb XT σ as) (Qcw sh cl pos D cT ad Hb σ' v) k (6 * k) (AX Hb) := by
  refine va_MetW (cc := my.bytes) (maxL := my.maxL) (ret := my.ret) hpl rfl ?_
  intro p e s m args below meth c s₁ B hml hv
  obtain ⟨rfl, hWD⟩ := hv
  have hts := atoms_spec (ws := Cond.codeWith my.y my.bytes my.maxL my.ret my.hh :: big.filter goodWord) B.pre
  have hlocks := B.notSynchronized
  rw [lg_entry_eq]
  refine ih d my 0 (ent my.maxL as) [] σ σ' (.inl v) k h hM p e _ s m _ below meth c B.exec B.bytes hml (findClass_of_methodNamed B.named) (fun w hw => hts w (List.mem_cons_of_mem _ hw)) ⟨hWD.2.2.1, hWD.2.2.2.1⟩ (fun _ => vx_table (x := my.y) B (hts _ List.mem_cons_self)) (Nat.le_refl _) (Nat.le_refl _) s.heap [] 0 0 _ _ (by show 0 + k ≤ k; omega) (by show 0 + 6 * k ≤ 6 * k; omega) hWD va_S.rf (ent_LH ad hlen) ?_
  intro pc' st' H1 locs1 cells1 slots1 ls1 hfin _ hW1 hS1 hsz hc1 hs1
  obtain rfl : cells1 = k := by simpa [tk] using hc1
  obtain rfl : slots1 = 6 * cells1 := by simpa [tk] using hs1
  have hb := B.bytes
  have hr := B.returns
  have hq : ∀ t : State, t.heap = H1 → s.WarmedH t.vm → Qcw sh cl pos D cT ad Hb σ' v (as.map (cv ad)).toArray s (.returned (v.map (cv ad))) t := by
    intro t ht hWm
    subst ht
    exact ⟨rfl, ⟨hW1.1, hW1.2.2.1, hW1.2.2.2.1⟩, hS1.F rfl⟩
  rcases ifin_at hck hfin with ⟨x, rfl, rfl, h1, h2⟩ | ⟨x, rfl, rfl, h1, h01, h2⟩ | ⟨x, rfl, rfl, h1, h2⟩ | ⟨rfl, rfl, h1, h2⟩
  · exact W.iret B.exec hb (hr.trans h1) hq hS1.2.2 h2
  · exact W.zret (ty := .boolean) B.exec hb (hr.trans h1) (by rcases h01 with rfl | rfl <;> rfl) hq hS1.2.2 h2
  · exact W.lret B.exec hb (hr.trans h1) hq hS1.2.2 h2
  · exact W.vret B.exec hb (hr.trans h1) hq hS1.2.2 h2
/-- what a throw site needs -/
def THR (M : List MI) (big : List Cond) (Hb : Heap) (XT : State → Prop) (l : Launch) (xn : Nat → String) : Prop := ∀ (mi : MI), mi ∈ M → ∀ (pc a : Nat) (st : List Value), ifin mi pc st = some (.inr a) →
  ∀ (p : Program) (e : Env) (R : Room) (s : State) (m : MethodId) (args : Array Value) (below : List Frame) (meth : Method) (c : Code) (H : Heap) (locs : List Loc) (cells slots mc ms : Nat) (ls : Array Slot) (free : Addr → Prop) (Qc : Array Value → State → Outcome → State → Prop) (XC : String → State → State → Prop),
    p.tables.exec = Jvm.exec → c.code = mi.bytes → s.vm.findClass mi.y.cls = some m.cls → (∀ w ∈ big.filter goodWord, w.before args s = true) → XT s → Hb.size ≤ s.heap.size → (∀ q : Nat, q < Hb.size → s.heap[q]? = Hb[q]?) → va_S (AX Hb) s.heap H locs → ls.size = c.maxLocals → (∀ x ∈ c.exceptionTable.toList, False) → 8 ≤ R.frames → 512 ≤ R.locals → cells + 1 ≤ R.cells → slots + 6 ≤ R.slots → meth.locks = false →
    (∀ t : State, s.vm.Alike t.vm → H.size ≤ t.heap.size → (∀ q : Nat, q < H.size → t.heap[q]? = H[q]?) → XC (xn a) s t) → (∀ z ∈ locs, free z.base) → cells + 1 ≤ mc → slots + 6 ≤ ms →
    W p l e R s m args below meth c H locs cells slots (vx_MQ below Qc XC args s mc ms free) (F0 m pc ls (st.map (cv (fun _ => 0))))
/-- a callee that may throw -/
theorem met_ofX {xn : Nat → String} (hthr : THR M big Hb XT l xn) {n d k : Nat} {my : MI} {as : List Value} {σ σ' : St3} {r : Res} (ih : BODY sh sc M big cl pos D cT ad Hb XT l n) (hM : my ∈ M) (hck : chkM M big nsl sts cl my = true) (hlen : (entL as).length ≤ my.maxL) (hhh : my.hh = [])
    (hpl : plainName my.y.cls = true) (h : exec sh sc M n d my 0 (ent my.maxL as) [] σ = some (r, σ', k)) :
    vx_Met l my.y (Cond.code my.y my.bytes my.maxL my.ret :: big.filter goodWord) (rmD d k) (Pcw sh cl pos D cT ad Hb XT σ as) (fun a st o t => ∃ v, r = .inl v ∧ Qcw sh cl pos D cT ad Hb σ' v a st o t) (fun E st t => ∃ x, r = .inr x ∧ Xcw sh cl pos D cT ad Hb σ' x xn E st t) k (6 * k) (AX Hb) := by
  refine vx_ofW (cc := my.bytes) (maxL := my.maxL) (ret := my.ret) hpl rfl ?_
  intro p e s m args below meth c s₁ B hml htab hv
  obtain ⟨rfl, hWD⟩ := hv
  have hts := atoms_spec (ws := Cond.code my.y my.bytes my.maxL my.ret :: big.filter goodWord) B.pre
  have hlocks := B.notSynchronized
  rw [lg_entry_eq]
  refine ih d my 0 (ent my.maxL as) [] σ σ' r k h hM p e _ s m _ below meth c B.exec B.bytes hml (findClass_of_methodNamed B.named) (fun w hw => hts w (List.mem_cons_of_mem _ hw)) ⟨hWD.2.2.1, hWD.2.2.2.1⟩ (fun q => absurd hhh q) (Nat.le_refl _) (Nat.le_refl _) s.heap [] 0 0 _ _ (by show 0 + k ≤ k; omega) (by show 0 + 6 * k ≤ 6 * k; omega) hWD va_S.rf (ent_LH ad hlen) ?_
  intro pc' st' H1 locs1 cells1 slots1 ls1 hfin h8 hW1 hS1 hsz hc1 hs1
  have hb := B.bytes
  have hr := B.returns
  cases r with
  | inl v =>
    obtain rfl : cells1 = k := by simpa [tk] using hc1
    obtain rfl : slots1 = 6 * cells1 := by simpa [tk] using hs1
    refine vx_ret ?_
    have hq : ∀ t : State, t.heap = H1 → s.WarmedH t.vm → ∃ v', (Sum.inl v : Res) = .inl v' ∧ Qcw sh cl pos D cT ad Hb σ' v' (as.map (cv ad)).toArray s (.returned (v.map (cv ad))) t := by
      intro t ht hWm
      subst ht
      exact ⟨v, rfl, rfl, ⟨hW1.1, hW1.2.2.1, hW1.2.2.2.1⟩, hS1.F rfl⟩
    rcases ifin_at hck hfin with ⟨x, rfl, rfl, h1, h2⟩ | ⟨x, rfl, rfl, h1, h01, h2⟩ | ⟨x, rfl, rfl, h1, h2⟩ | ⟨rfl, rfl, h1, h2⟩
    · exact W.iret B.exec hb (hr.trans h1) hq hS1.2.2 h2
    · exact W.zret (ty := .boolean) B.exec hb (hr.trans h1) (by rcases h01 with rfl | rfl <;> rfl) hq hS1.2.2 h2
    · exact W.lret B.exec hb (hr.trans h1) hq hS1.2.2 h2
    · exact W.vret B.exec hb (hr.trans h1) hq hS1.2.2 h2
  | inr x =>
    have hd8 : 8 ≤ d := h8 rfl
    have hc2 : cells1 + 1 = k := by simpa [tk] using hc1
    have hs2 : slots1 + 6 = 6 * k := by simpa [tk] using hs1
    have hst : st'.map (cv ad) = st'.map (cv (fun _ => 0)) := by
      unfold ifin at hfin
      cases hc : my.code pc' with
      | none => rw [hc] at hfin; cases hfin
      | some ent =>
        rw [hc] at hfin
        obtain ⟨ins, len, a, b, w⟩ := ent
        dsimp only at hfin
        split at hfin
        · split at hfin
          · split at hfin
            · cases hfin
            · obtain ⟨h1, h2⟩ := bif_at hfin; cases h2
            · cases hfin
          · cases hfin
        · split at hfin
          · split at hfin <;> cases hfin
          · cases hfin
        · split at hfin
          · split at hfin <;> cases hfin
          · cases hfin
        · split at hfin
          · rfl
          · cases hfin
        · cases hfin
    rw [hst]
    refine hthr my hM pc' x st' hfin p e _ s m _ below meth c H1 locs1 cells1 slots1 k (6 * k) ls1 (AX Hb) _ _ B.exec hb (findClass_of_methodNamed B.named) (fun w hw => hts w (List.mem_cons_of_mem _ hw)) hWD.2.2.2.2 hWD.2.2.1 hWD.2.2.2.1 hS1 (hsz.trans hml.symm) htab hd8 (by show 512 ≤ 64 * d; omega) (by show cells1 + 1 ≤ k; omega) (by show slots1 + 6 ≤ 6 * k; omega) hlocks ?_ hS1.2.2 (by omega) (by omega)
    intro t _ hz hq
    refine ⟨x, rfl, rfl, ⟨fun j q hj => ?_, Nat.le_trans hW1.2.2.1 hz, fun q hq2 => ?_⟩, ⟨Nat.le_trans hS1.1 hz, fun q h1 h2 => ?_⟩⟩
    · exact (hW1.1 j q hj).kept (hq q.1 (hW1.1 j q hj).lt)
    · rw [hq q (Nat.lt_of_lt_of_le hq2 hW1.2.2.1), hW1.2.2.2.1 q hq2]
    · rw [hq q (Nat.lt_of_lt_of_le h1 hS1.1), hS1.2.1 q h1 h2]
end Snd
