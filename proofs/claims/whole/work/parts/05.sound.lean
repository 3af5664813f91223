/-! ===== what the small machine says holds of the machine itself ===== -/
/-- a word at its place -/
def wd (big : List Cond) (i : Nat) (w : Cond) : Bool := decide (big[i]? = some w) && goodWord w
theorem wd_in {big : List Cond} {i : Nat} {w : Cond} (h : wd big i w = true) : w ∈ big.filter goodWord := by
  simp only [wd, Bool.and_eq_true, decide_eq_true_eq] at h
  exact List.mem_filter.mpr ⟨List.mem_of_getElem? h.1, h.2⟩
def tgt (pc : Nat) (off : Int) (a : Nat) : Bool := decide ((pc : Int) + off = (a : Int))
/-- a switch's rows -/
def swl (pc : Nat) : Int → List Int → List (Int32 × Nat)
  | _, [] => []
  | lo, o :: r => (Int32.ofInt lo, ((pc : Int) + o).toNat) :: swl pc (lo + 1) r
def swOk (pc : Nat) (lo hi dflt : Int) (offs : List Int) (l : List (Int32 × Nat)) (a : Nat) : Bool :=
  decide (l = swl pc lo offs) && decide (hi = lo + (offs.length : Int) - 1) && decide (-2147483648 ≤ lo) && decide (hi < 2147483648) && offs.all (fun o => decide (0 ≤ (pc : Int) + o)) && tgt pc dflt a
section Chk
variable (M : List MI) (big nsl : List Cond) (sts : List (String × Nat × String × Nat)) (cl : List vw_C)
def fldOk (mi : MI) (pc idx a b : Nat) (put : Bool) : Bool := match cl[a]? with
  | some (C, T, N) => decide (b < N) && wd big (mi.pls pc) (.fieldLink mi.y.cls idx (T b).1 (T b).2.1 (T b).2.2.1) && (if put then !(T b).2.2.2 else true)
  | none => false
def calOk (mi : MI) (pc idx a b kind : Nat) (st : Bool) : Bool := match kind, st with
  | 0, true => match M[a]? with
    | some my => Nat.beq my.flag 0 && Nat.beq b my.npar && wd big (mi.pls pc) (.methodLink mi.y.cls idx my.y)
    | none => false
  | 1, true => match M[a]? with
    | some my => Nat.beq my.flag 0 && Nat.beq b my.npar && decide (nsl[mi.pls pc]? = some (.methodLinkNest mi.y.cls idx my.y "MeshWaters"))
    | none => false
  | 4, true => match M[a]? with
    | some my => Nat.beq my.flag 2 && Nat.beq b my.npar && wd big (mi.pls pc) (.methodLink mi.y.cls idx my.y)
    | none => false
  | 2, false => match M[a]? with
    | some my => Nat.beq my.flag 1 && Nat.beq b my.npar && wd big (mi.pls pc) (.methodLink mi.y.cls idx my.y)
    | none => false
  | 3, false => match M[a]? with
    | some my => Nat.beq my.flag 1 && Nat.beq b my.npar && wd big (mi.pls pc) (.methodLink mi.y.cls idx my.y)
    | none => false
  | 9, true => Nat.beq b 2 && wd big (mi.pls pc) (.methodLink mi.y.cls idx ⟨"java/lang/Math", "max", "(II)I"⟩)
  | 10, true => Nat.beq b 2 && wd big (mi.pls pc) (.methodLink mi.y.cls idx ⟨"java/lang/Math", "min", "(II)I"⟩)
  | 11, true => Nat.beq b 2 && wd big (mi.pls pc) (.methodLink mi.y.cls idx ⟨"java/lang/Math", "max", "(JJ)J"⟩)
  | 12, true => Nat.beq b 2 && wd big (mi.pls pc) (.methodLink mi.y.cls idx ⟨"java/lang/Math", "min", "(JJ)J"⟩)
  | 7, false => Nat.beq b 0 && wd big (mi.pls pc) (.methodLink mi.y.cls idx ⟨"java/lang/String", "length", "()I"⟩)
  | 8, false => Nat.beq b 1 && wd big (mi.pls pc) (.methodLink mi.y.cls idx ⟨"java/lang/String", "charAt", "(I)C"⟩)
  | _, _ => false
def l1 (len : Nat) : Bool := Nat.beq len 1
def l2 (len : Nat) : Bool := Nat.beq len 2
def l3 (len : Nat) : Bool := Nat.beq len 3
def ldcOk (mi : MI) (pc idx : Nat) (v : Value) : Bool := match v with
  | .int x => wd big (mi.pls pc) (.constant mi.y.cls idx x)
  | .ref a => (sts[mi.pls pc]?).any (fun q => decide (q.1 = mi.y.cls) && Nat.beq q.2.1 idx && Nat.beq q.2.2.2 a)
  | _ => false
def chkE (mi : MI) (pc : Nat) (e : Ent) : Bool := decide (decode mi.bytes pc = .ok (e.1, e.2.1)) && (match e with
  | (ins, len, a, b, v) => match ins with
    | .iconst n => l1 len && decide (v = .int (Int32.ofInt n))
    | .bipush n => l2 len && decide (v = .int (Int8.ofInt n).toInt32)
    | .sipush n => l3 len && decide (v = .int (Int16.ofInt n).toInt32)
    | .lconst n => l1 len && decide (v = .long (Int64.ofNat n.val))
    | .ldc idx => l2 len && ldcOk big sts mi pc idx v
    | .ldc_w idx => l3 len && ldcOk big sts mi pc idx v
    | .ldc2_w idx => l3 len && (match v with
      | .long x => wd big (mi.pls pc) (.constantLong mi.y.cls idx x)
      | _ => false)
    | .iload _ => l2 len
    | .lload _ => l2 len
    | .aload _ => l2 len
    | .istore _ => l2 len
    | .lstore _ => l2 len
    | .astore _ => l2 len
    | .iinc _ n => l3 len && decide (v = .int (Int32.ofInt n))
    | .goto off => l3 len && tgt pc off a
    | .ifCond _ off => l3 len && tgt pc off a
    | .if_icmp _ off => l3 len && tgt pc off a
    | .tableswitch dflt lo hi offs => swOk pc lo hi dflt offs.toList (mi.sw pc) a
    | .getfield idx => l3 len && fldOk big cl mi pc idx a b false
    | .putfield idx => l3 len && fldOk big cl mi pc idx a b true
    | .invokestatic idx => l3 len && (match v with
      | .retAddr kind => calOk M big nsl mi pc idx a b kind true
      | _ => false)
    | .invokevirtual idx => l3 len && (match v with
      | .retAddr kind => calOk M big nsl mi pc idx a b kind false
      | _ => false)
    | .new _ => l3 len
    | _ => l1 len)
/-- a method's own words -/
def chkY (mi : MI) : Bool := decide (mi.y.cls ≠ "java/lang/invoke/MethodHandle" ∧ mi.y.cls ≠ "java/lang/invoke/VarHandle") && decide ((parseMethodDescriptor mi.y.desc).map (fun d => d.parameters.length) = some mi.npar) && plainName mi.y.cls && Nat.ble mi.maxL 44 && wd big (mi.ply.getD 1 0) (.initialized mi.y.cls) && (match mi.flag with
  | 0 => wd big (mi.ply.getD 2 0) (.static mi.y) && decide (mi.hh = [])
  | 1 => wd big (mi.ply.getD 2 0) (.instanceMethod mi.y) && wd big (mi.ply.getD 3 0) (.selects mi.y.cls mi.y mi.y) && decide (mi.hh = []) && (cl[mi.ply.getD 4 0]?).any (fun q => decide (q.1 = mi.y.cls))
  | 2 => wd big (mi.ply.getD 2 0) (.static mi.y)
  | _ => decide (mi.hh = []))
/-- .. and its code's word -/
def CW (mi : MI) : Prop := (mi.flag = 0 ∨ mi.flag = 1 → Cond.code mi.y mi.bytes mi.maxL mi.ret ∈ big.filter goodWord) ∧ (mi.flag = 2 → Cond.codeWith mi.y mi.bytes mi.maxL mi.ret mi.hh ∈ big.filter goodWord)
def chkM (mi : MI) : Bool := chkY big cl mi && (List.range mi.clen).all (fun pc => match mi.code pc with
  | none => true
  | some e => chkE M big nsl sts cl mi pc e)
/-- a piece of a long method -/
def chkR (mi : MI) (a n : Nat) : Bool := (List.range n).all (fun j => match mi.code (a + j) with
  | none => true
  | some e => chkE M big nsl sts cl mi (a + j) e)
variable {M big nsl sts cl}
theorem chkM_of {mi : MI} (h : chkY big cl mi = true) (h2 : ∀ pc, pc < mi.clen → (match mi.code pc with
  | none => true
  | some e => chkE M big nsl sts cl mi pc e) = true) : chkM M big nsl sts cl mi = true := by
  simp only [chkM, Bool.and_eq_true, List.all_eq_true, List.mem_range]
  exact ⟨h, h2⟩
theorem chkR_at {mi : MI} {a n : Nat} (h : chkR M big nsl sts cl mi a n = true) {pc : Nat} (h1 : a ≤ pc) (h2 : pc < a + n) : (match mi.code pc with
  | none => true
  | some e => chkE M big nsl sts cl mi pc e) = true := by
  simp only [chkR, List.all_eq_true, List.mem_range] at h
  have := h (pc - a) (by omega)
  rw [show a + (pc - a) = pc by omega] at this
  exact this
variable (M big nsl sts cl)
theorem chk_at {mi : MI} (h : chkM M big nsl sts cl mi = true) {pc : Nat} {e : Ent} (hc : mi.code pc = some e) : chkE M big nsl sts cl mi pc e = true := by
  simp only [chkM, Bool.and_eq_true, List.all_eq_true, List.mem_range] at h
  have hlt : pc < mi.clen := by
    unfold MI.code at hc
    cases hb : Nat.blt pc mi.2.1 with
    | true => exact Nat.lt_of_lt_of_le (Nat.lt_of_succ_le (Nat.le_of_ble_eq_true hb)) (Nat.le_refl _)
    | false => rw [hb] at hc; cases hc
  have := h.2 pc hlt
  rw [hc] at this
  exact this
end Chk
/-- positions to addresses -/
def cv (ad : Nat → Nat) : Value → Value
  | .ref a => .ref (ad a)
  | v => v
def cid (cT : List (ClassId × FieldType)) (t : Nat) : ClassId := (cT[t]?).elim 0 Prod.fst
/-- which store a kind of field lies in -/
def kcl (kd : Nat) : Nat := bif Nat.beq kd 4 then 0 else kd
section World
variable (sh : Shp) (sc : Sct) (pos : List Nat) (D : va_G) (cl : List vw_C) (cT : List (ClassId × FieldType)) (ad : Nat → Nat) (Hb : Heap) (XT : State → Prop)
def cel (σ : St3) (k : Nat) : va_E := match sh k with
  | some (0, ci, fs) => .inr (ci, fs.map (fun q => cv ad (afv σ q)))
  | some (1, n, _) => .inl (cid cT 0, n, .inl (ai (g3 σ k) k))
  | some (2, n, _) => .inl (cid cT 1, n, .inl (ai (g3 σ k) k))
  | some (3, n, _) => .inl (cid cT 2, n, .inr (.inl (al (g3 σ k) k)))
  | some (4, n, q) => .inl (cid cT 3, n, .inr (.inr (.inr (.inr (fun j => some (ad ((q.map Prod.fst).getD 0 0 + j)))))))
  | some (5, n, q) => .inl (cid cT 4, n, .inr (.inr (.inr (.inr (fun j => some (ad ((q.map Prod.fst).getD 0 0 + j)))))))
  | _ => .inr (0, [])
def wsO (σ : St3) : va_W := pos.map (fun k => (ad k, cel sh cT ad σ k))
def AX : Nat → Prop := fun q => Hb.size ≤ q
def WD (σ : St3) (U : State) (H : Heap) : Prop := va_P D cl (wsO sh pos cT ad σ) H ∧ va_K D cl cT U ∧ Hb.size ≤ H.size ∧ (∀ q : Nat, q < Hb.size → H[q]? = Hb[q]?) ∧ XT U
/-- what is known of positions, shapes and addresses -/
def HY : Prop := (∀ k q, sh k = some q → q.1 ≤ 5 → k ∈ pos) ∧ pos.Nodup ∧ (∀ i j, i ∈ pos → j ∈ pos → ad i = ad j → i = j) ∧ (∀ k, k ∈ pos → Hb.size ≤ ad k) ∧
  cT.map Prod.snd = [.int, .boolean, .long, .array .int, .object "java/lang/String"] ∧
  (∀ k ci fs, sh k = some (0, ci, fs) → ∃ C T N, cl[ci]? = some (C, T, N) ∧ ∀ b kd key, fs[b]? = some (kd, key) → (kd = 0 → parseFieldDescriptor (T b).2.2.1 = some .int) ∧ (kd = 1 → parseFieldDescriptor (T b).2.2.1 = some .long) ∧ (kd = 3 → parseFieldDescriptor (T b).2.2.1 = some (.array .long)) ∧ (kd = 4 → parseFieldDescriptor (T b).2.2.1 = some .boolean)) ∧
  (∀ (k ci : Nat) (fs : List (Nat × Nat)) (k' ci' : Nat) (fs' : List (Nat × Nat)) (b b' kd kd' key : Nat), sh k = some (0, ci, fs) → sh k' = some (0, ci', fs') → fs[b]? = some (kd, key) → fs'[b']? = some (kd', key) → kd ≠ 2 → kd' ≠ 2 → kcl kd = kcl kd' → k = k' ∧ b = b') ∧
  (∀ k q, sh k = some (7, q) → ad k < Hb.size ∧ ∀ U, XT U → va_X (ad k) sc.1 sc.2.1 U Hb) ∧ sc.1 < 2 ^ 31
theorem ws_at {σ : St3} {k : Nat} (h : k ∈ pos) : ∃ q0 : Nat, (wsO sh pos cT ad σ)[q0]? = some (ad k, cel sh cT ad σ k) ∧ pos[q0]? = some k := by
  obtain ⟨q0, hq⟩ := List.getElem?_of_mem h
  exact ⟨q0, by rw [wsO, List.getElem?_map, hq]; rfl, hq⟩
end World

/-! locals -/
def alo (ad : Nat → Nat) (L : Lo) : List (Nat × Value) := (List.range L.length).filterMap (fun i => (L[i]?).elim none (fun o => o.elim none (fun v => some (i, cv ad v))))
theorem mem_alo {ad : Nat → Nat} {L : Lo} {i : Nat} {w : Value} : (i, w) ∈ alo ad L ↔ ∃ v, L[i]? = some (some v) ∧ w = cv ad v := by
  unfold alo
  rw [List.mem_filterMap]
  constructor
  · rintro ⟨j, hj, h⟩
    cases hL : L[j]? with
    | none => rw [hL] at h; cases h
    | some o =>
      rw [hL] at h
      cases o with
      | none => cases h
      | some v =>
        simp only [Option.elim] at h
        cases h
        exact ⟨v, hL, rfl⟩
  · rintro ⟨v, hv, rfl⟩
    have hlt : i < L.length := (List.getElem?_eq_some_iff.mp hv).1
    exact ⟨i, List.mem_range.mpr hlt, by rw [hv]; rfl⟩
def LH (ad : Nat → Nat) (ls : Array Slot) (nL : Nat) (L : Lo) : Prop := L.length = nL ∧ lv_has ls nL (alo ad L)
theorem LH.at {ad : Nat → Nat} {ls : Array Slot} {nL : Nat} {L : Lo} (h : LH ad ls nL L) {i : Nat} {v : Value} (hv : L[i]? = some (some v)) : ls[i]? = some (.val (cv ad v)) := h.2.2.2 (i, cv ad v) (mem_alo.mpr ⟨v, hv, rfl⟩)
theorem lv_has.mono {ls : Array Slot} {nL : Nat} {l l' : List (Nat × Value)} (h : lv_has ls nL l) (hs : ∀ q ∈ l', q ∈ l) : lv_has ls nL l' := ⟨h.1, h.2.1, fun q hq => h.2.2 q (hs q hq)⟩
theorem kil_len (i : Nat) (L : Lo) : (kil i L).length = L.length := by
  unfold kil
  cases i with
  | zero => rfl
  | succ j =>
    dsimp only
    split <;> simp
theorem cv_cat (ad : Nat → Nat) (v : Value) : (cv ad v).category = v.category := by cases v <;> rfl
theorem kil_at {i j : Nat} {L : Lo} {v : Value} (h : (kil i L)[j]? = some (some v)) : L[j]? = some (some v) ∧ (j + 1 = i → v.category ≠ 2) := by
  unfold kil at h
  cases i with
  | zero => exact ⟨h, fun q => by omega⟩
  | succ n =>
    dsimp only at h
    split at h
    · rename_i x hx
      by_cases e : n = j
      · subst e
        rw [List.getElem?_set] at h
        simp at h
      · rw [List.getElem?_set_ne e] at h
        exact ⟨h, fun q => by omega⟩
    · rename_i x hx
      by_cases e : n = j
      · subst e
        rw [List.getElem?_set] at h
        simp at h
      · rw [List.getElem?_set_ne e] at h
        exact ⟨h, fun q => by omega⟩
    · rename_i h1 h2
      refine ⟨h, fun q => ?_⟩
      have e : j = n := by omega
      subst e
      cases v with
      | long x => exact absurd h (h1 x)
      | double x => exact absurd h (h2 x)
      | _ => simp [Value.category]
theorem st1_len (i : Nat) (v : Value) (L : Lo) : (st1 i v L).length = L.length := by simp [st1, kil_len]
theorem st2_len (i : Nat) (v : Value) (L : Lo) : (st2 i v L).length = L.length := by simp [st2, kil_len]
theorem LH_1 {ad : Nat → Nat} {ls : Array Slot} {nL : Nat} {L : Lo} (hL : L.length = nL) {i : Nat} {v : Value} (h : lv_has ls nL ((i, cv ad v) :: (alo ad L).filter (fun q => !(q.1 == i) && !(q.1 + 1 == i && q.2.category == 2)))) : LH ad ls nL (st1 i v L) := by
  refine ⟨by rw [st1_len, hL], h.mono fun q hq => ?_⟩
  obtain ⟨j, w⟩ := q
  obtain ⟨x, hx, rfl⟩ := mem_alo.mp hq
  unfold st1 at hx
  by_cases e : i = j
  · subst e
    have hlt : i < (kil i L).length := by
      have := (List.getElem?_eq_some_iff.mp hx).1
      simpa using this
    rw [List.getElem?_set_self hlt] at hx
    cases hx
    exact List.mem_cons_self
  · rw [List.getElem?_set_ne e] at hx
    obtain ⟨h1, h2⟩ := kil_at hx
    refine List.mem_cons_of_mem _ (List.mem_filter.mpr ⟨mem_alo.mpr ⟨x, h1, rfl⟩, ?_⟩)
    simp only [Bool.and_eq_true, Bool.not_eq_true', beq_eq_false_iff_ne, Bool.and_eq_false_iff, cv_cat]
    refine ⟨fun q => e q.symm, ?_⟩
    by_cases q : j + 1 = i
    · exact Or.inr (h2 q)
    · exact Or.inl q
theorem LH_2 {ad : Nat → Nat} {ls : Array Slot} {nL : Nat} {L : Lo} (hL : L.length = nL) {i : Nat} {v : Value} (hv : ∀ a, v ≠ .ref a) (h : lv_has ls nL ((i, v) :: (alo ad L).filter (fun q => !(q.1 == i) && (!(q.1 == i + 1) && !(q.1 + 1 == i && q.2.category == 2))))) : LH ad ls nL (st2 i v L) := by
  refine ⟨by rw [st2_len, hL], h.mono fun q hq => ?_⟩
  obtain ⟨j, w⟩ := q
  obtain ⟨x, hx, rfl⟩ := mem_alo.mp hq
  unfold st2 at hx
  by_cases e0 : i + 1 = j
  · subst e0
    rw [List.getElem?_set] at hx
    simp at hx
  rw [List.getElem?_set_ne e0] at hx
  by_cases e : i = j
  · subst e
    have hlt : i < (kil i L).length := by
      have := (List.getElem?_eq_some_iff.mp hx).1
      simpa using this
    rw [List.getElem?_set_self hlt] at hx
    cases hx
    have hcv : cv ad v = v := by
      cases v with
      | ref a => exact absurd rfl (hv a)
      | _ => rfl
    rw [hcv]
    exact List.mem_cons_self
  · rw [List.getElem?_set_ne e] at hx
    obtain ⟨h1, h2⟩ := kil_at hx
    refine List.mem_cons_of_mem _ (List.mem_filter.mpr ⟨mem_alo.mpr ⟨x, h1, rfl⟩, ?_⟩)
    simp only [Bool.and_eq_true, Bool.not_eq_true', beq_eq_false_iff_ne, Bool.and_eq_false_iff, cv_cat]
    refine ⟨fun q => e q.symm, fun q => e0 q.symm, ?_⟩
    by_cases q : j + 1 = i
    · exact Or.inr (h2 q)
    · exact Or.inl q

/-! what a store changes -/
theorem gi_p3 (σ : St3) (key k : Nat) (x : Int32) : gi (g3 (p3 σ key (si (g3 σ key) key x)) k) k = if k = key then x else gi (g3 σ k) k := by
  by_cases e : k = key
  · subst e
    cases h1 : Nat.blt k 1000 <;> cases h2 : Nat.blt k 2000 <;> simp [g3, p3, h1, h2, gi, si]
  · cases h1 : Nat.blt k 1000 <;> cases h2 : Nat.blt k 2000 <;> cases h3 : Nat.blt key 1000 <;> cases h4 : Nat.blt key 2000 <;> simp [g3, p3, h1, h2, h3, h4, gi, si, e]
theorem gl_p3 (σ : St3) (key k : Nat) (x : Int64) : gl (g3 (p3 σ key (sl (g3 σ key) key x)) k) k = if k = key then x else gl (g3 σ k) k := by
  by_cases e : k = key
  · subst e
    cases h1 : Nat.blt k 1000 <;> cases h2 : Nat.blt k 2000 <;> simp [g3, p3, h1, h2, gl, sl]
  · cases h1 : Nat.blt k 1000 <;> cases h2 : Nat.blt k 2000 <;> cases h3 : Nat.blt key 1000 <;> cases h4 : Nat.blt key 2000 <;> simp [g3, p3, h1, h2, h3, h4, gl, sl, e]
theorem gr_p3 (σ : St3) (key k : Nat) (x : Nat) : gr (g3 (p3 σ key (sr (g3 σ key) key x)) k) k = if k = key then x else gr (g3 σ k) k := by
  by_cases e : k = key
  · subst e
    cases h1 : Nat.blt k 1000 <;> cases h2 : Nat.blt k 2000 <;> simp [g3, p3, h1, h2, gr, sr]
  · cases h1 : Nat.blt k 1000 <;> cases h2 : Nat.blt k 2000 <;> cases h3 : Nat.blt key 1000 <;> cases h4 : Nat.blt key 2000 <;> simp [g3, p3, h1, h2, h3, h4, gr, sr, e]
theorem ai_p3 (σ : St3) (key k : Nat) (x : Nat → Int32) : ai (g3 (p3 σ key (ui (g3 σ key) key x)) k) k = if k = key then x else ai (g3 σ k) k := by
  by_cases e : k = key
  · subst e
    cases h1 : Nat.blt k 1000 <;> cases h2 : Nat.blt k 2000 <;> simp [g3, p3, h1, h2, ai, ui]
  · cases h1 : Nat.blt k 1000 <;> cases h2 : Nat.blt k 2000 <;> cases h3 : Nat.blt key 1000 <;> cases h4 : Nat.blt key 2000 <;> simp [g3, p3, h1, h2, h3, h4, ai, ui, e]
theorem al_p3 (σ : St3) (key k : Nat) (x : Nat → Int64) : al (g3 (p3 σ key (ul (g3 σ key) key x)) k) k = if k = key then x else al (g3 σ k) k := by
  by_cases e : k = key
  · subst e
    cases h1 : Nat.blt k 1000 <;> cases h2 : Nat.blt k 2000 <;> simp [g3, p3, h1, h2, al, ul]
  · cases h1 : Nat.blt k 1000 <;> cases h2 : Nat.blt k 2000 <;> cases h3 : Nat.blt key 1000 <;> cases h4 : Nat.blt key 2000 <;> simp [g3, p3, h1, h2, h3, h4, al, ul, e]
/-- a store in one of the five keeps the other four -/
theorem p3_o {α : Type} (f : Sto → Nat → α) (σ : St3) (key k : Nat) (S : Sto) (h : ∀ j, f S j = f (g3 σ key) j) : f (g3 (p3 σ key S) k) k = f (g3 σ k) k := by
  unfold g3 p3 at *
  cases h1 : Nat.blt k 1000 <;> cases h2 : Nat.blt k 2000 <;> cases h3 : Nat.blt key 1000 <;> cases h4 : Nat.blt key 2000 <;> simp only [h3, h4, cond_true, cond_false] at h ⊢ <;> first | rfl | exact h k
theorem gi_si (S : Sto) (k j : Nat) (x : Int32) : gi (si S k x) j = if j = k then x else gi S j := rfl
theorem gl_sl (S : Sto) (k j : Nat) (x : Int64) : gl (sl S k x) j = if j = k then x else gl S j := rfl
theorem gr_sr (S : Sto) (k j : Nat) (x : Nat) : gr (sr S k x) j = if j = k then x else gr S j := rfl
theorem ai_ui (S : Sto) (k j : Nat) (x : Nat → Int32) : ai (ui S k x) j = if j = k then x else ai S j := rfl
theorem al_ul (S : Sto) (k j : Nat) (x : Nat → Int64) : al (ul S k x) j = if j = k then x else al S j := rfl
theorem gi_sl (S : Sto) (k j : Nat) (x : Int64) : gi (sl S k x) j = gi S j := rfl
theorem gi_ui (S : Sto) (k j : Nat) (x : Nat → Int32) : gi (ui S k x) j = gi S j := rfl
theorem gi_ul (S : Sto) (k j : Nat) (x : Nat → Int64) : gi (ul S k x) j = gi S j := rfl
theorem gi_sr (S : Sto) (k j : Nat) (x : Nat) : gi (sr S k x) j = gi S j := rfl
theorem gl_si (S : Sto) (k j : Nat) (x : Int32) : gl (si S k x) j = gl S j := rfl
theorem gl_ui (S : Sto) (k j : Nat) (x : Nat → Int32) : gl (ui S k x) j = gl S j := rfl
theorem gl_ul (S : Sto) (k j : Nat) (x : Nat → Int64) : gl (ul S k x) j = gl S j := rfl
theorem gl_sr (S : Sto) (k j : Nat) (x : Nat) : gl (sr S k x) j = gl S j := rfl
theorem ai_si (S : Sto) (k j : Nat) (x : Int32) : ai (si S k x) j = ai S j := rfl
theorem ai_sl (S : Sto) (k j : Nat) (x : Int64) : ai (sl S k x) j = ai S j := rfl
theorem ai_ul (S : Sto) (k j : Nat) (x : Nat → Int64) : ai (ul S k x) j = ai S j := rfl
theorem ai_sr (S : Sto) (k j : Nat) (x : Nat) : ai (sr S k x) j = ai S j := rfl
theorem al_si (S : Sto) (k j : Nat) (x : Int32) : al (si S k x) j = al S j := rfl
theorem al_sl (S : Sto) (k j : Nat) (x : Int64) : al (sl S k x) j = al S j := rfl
theorem al_ui (S : Sto) (k j : Nat) (x : Nat → Int32) : al (ui S k x) j = al S j := rfl
theorem al_sr (S : Sto) (k j : Nat) (x : Nat) : al (sr S k x) j = al S j := rfl
theorem gr_si (S : Sto) (k j : Nat) (x : Int32) : gr (si S k x) j = gr S j := rfl
theorem gr_sl (S : Sto) (k j : Nat) (x : Int64) : gr (sl S k x) j = gr S j := rfl
theorem gr_ui (S : Sto) (k j : Nat) (x : Nat → Int32) : gr (ui S k x) j = gr S j := rfl
theorem gr_ul (S : Sto) (k j : Nat) (x : Nat → Int64) : gr (ul S k x) j = gr S j := rfl
/-- a field's kind, its new value, and the stores behind it -/
def Pf (σ : St3) (kd key : Nat) (w : Value) (σ' : St3) : Prop :=
  (kd = 0 ∧ ∃ x, w = .int x ∧ σ' = p3 σ key (si (g3 σ key) key x)) ∨ (kd = 1 ∧ ∃ x, w = .long x ∧ σ' = p3 σ key (sl (g3 σ key) key x)) ∨ (kd = 3 ∧ ∃ x, w = .ref x ∧ σ' = p3 σ key (sr (g3 σ key) key x)) ∨ (kd = 4 ∧ ∃ x, (x = 0 ∨ x = 1) ∧ w = .int x ∧ σ' = p3 σ key (si (g3 σ key) key x))
theorem Pf.self {σ σ' : St3} {kd key : Nat} {w : Value} (h : Pf σ kd key w σ') : afv σ' (kd, key) = w := by
  rcases h with ⟨rfl, x, rfl, rfl⟩ | ⟨rfl, x, rfl, rfl⟩ | ⟨rfl, x, rfl, rfl⟩ | ⟨rfl, x, -, rfl, rfl⟩
  · simp [afv, gi_p3]
  · simp [afv, gl_p3]
  · simp [afv, gr_p3]
  · simp [afv, gi_p3]
theorem Pf.other {σ σ' : St3} {kd key kd' key' : Nat} {w : Value} (h : Pf σ kd key w σ') (hne : kcl kd' = kcl kd → kd' ≠ 2 → key' ≠ key) : afv σ' (kd', key') = afv σ (kd', key') := by
  have a2 : ∀ σ σ' : St3, afv σ' (2, key') = afv σ (2, key') := fun _ _ => rfl
  have a5 : ∀ (σ σ' : St3) (n : Nat), afv σ' (n + 5, key') = afv σ (n + 5, key') := fun _ _ _ => rfl
  rcases h with ⟨rfl, x, rfl, rfl⟩ | ⟨rfl, x, rfl, rfl⟩ | ⟨rfl, x, rfl, rfl⟩ | ⟨rfl, x, -, rfl, rfl⟩
  · match kd', hne with
    | 0, hne => show Value.int _ = Value.int _; rw [gi_p3, if_neg (hne rfl (by decide))]
    | 1, _ => show Value.long _ = Value.long _; rw [p3_o gl _ _ _ _ (fun j => gl_si _ _ _ _)]
    | 2, _ => exact a2 _ _
    | 3, _ => show Value.ref _ = Value.ref _; rw [p3_o gr _ _ _ _ (fun j => gr_si _ _ _ _)]
    | 4, hne => show Value.int _ = Value.int _; rw [gi_p3, if_neg (hne rfl (by decide))]
    | n + 5, _ => exact a5 _ _ _
  · match kd', hne with
    | 0, hne => show Value.int _ = Value.int _; rw [p3_o gi _ _ _ _ (fun j => gi_sl _ _ _ _)]
    | 1, hne => show Value.long _ = Value.long _; rw [gl_p3, if_neg (hne rfl (by decide))]
    | 2, _ => exact a2 _ _
    | 3, _ => show Value.ref _ = Value.ref _; rw [p3_o gr _ _ _ _ (fun j => gr_sl _ _ _ _)]
    | 4, hne => show Value.int _ = Value.int _; rw [p3_o gi _ _ _ _ (fun j => gi_sl _ _ _ _)]
    | n + 5, _ => exact a5 _ _ _
  · match kd', hne with
    | 0, hne => show Value.int _ = Value.int _; rw [p3_o gi _ _ _ _ (fun j => gi_sr _ _ _ _)]
    | 1, _ => show Value.long _ = Value.long _; rw [p3_o gl _ _ _ _ (fun j => gl_sr _ _ _ _)]
    | 2, _ => exact a2 _ _
    | 3, hne => show Value.ref _ = Value.ref _; rw [gr_p3, if_neg (hne rfl (by decide))]
    | 4, hne => show Value.int _ = Value.int _; rw [p3_o gi _ _ _ _ (fun j => gi_sr _ _ _ _)]
    | n + 5, _ => exact a5 _ _ _
  · match kd', hne with
    | 0, hne => show Value.int _ = Value.int _; rw [gi_p3, if_neg (hne rfl (by decide))]
    | 1, _ => show Value.long _ = Value.long _; rw [p3_o gl _ _ _ _ (fun j => gl_si _ _ _ _)]
    | 2, _ => exact a2 _ _
    | 3, _ => show Value.ref _ = Value.ref _; rw [p3_o gr _ _ _ _ (fun j => gr_si _ _ _ _)]
    | 4, hne => show Value.int _ = Value.int _; rw [gi_p3, if_neg (hne rfl (by decide))]
    | n + 5, _ => exact a5 _ _ _
theorem Pf_ai {σ σ' : St3} {kd key : Nat} {w : Value} (h : Pf σ kd key w σ') (k : Nat) : ai (g3 σ' k) k = ai (g3 σ k) k := by
  rcases h with ⟨rfl, x, rfl, rfl⟩ | ⟨rfl, x, rfl, rfl⟩ | ⟨rfl, x, rfl, rfl⟩ | ⟨rfl, x, -, rfl, rfl⟩ <;> exact p3_o ai _ _ _ _ (fun j => rfl)
theorem Pf_al {σ σ' : St3} {kd key : Nat} {w : Value} (h : Pf σ kd key w σ') (k : Nat) : al (g3 σ' k) k = al (g3 σ k) k := by
  rcases h with ⟨rfl, x, rfl, rfl⟩ | ⟨rfl, x, rfl, rfl⟩ | ⟨rfl, x, rfl, rfl⟩ | ⟨rfl, x, -, rfl, rfl⟩ <;> exact p3_o al _ _ _ _ (fun j => rfl)
/-- the world behind a store -/
theorem ws_set {sh : Shp} {pos : List Nat} {cT : List (ClassId × FieldType)} {ad : Nat → Nat} {σ σ' : St3} (hnd : pos.Nodup) {q0 k : Nat} (hq : pos[q0]? = some k) {e : va_E} (he : cel sh cT ad σ' k = e) (ho : ∀ j, j ≠ k → cel sh cT ad σ' j = cel sh cT ad σ j) : (wsO sh pos cT ad σ).set q0 (ad k, e) = wsO sh pos cT ad σ' := by
  apply List.ext_getElem?
  intro i
  rw [wsO, wsO, List.getElem?_set, List.getElem?_map, List.getElem?_map, List.length_map]
  have hlt : q0 < pos.length := (List.getElem?_eq_some_iff.mp hq).1
  by_cases h : q0 = i
  · subst h
    rw [if_pos rfl, if_pos hlt, hq, ← he]
    rfl
  · rw [if_neg h]
    cases hi : pos[i]? with
    | none => rfl
    | some j =>
      have hj : j ≠ k := by
        intro e
        subst e
        have hli : i < pos.length := (List.getElem?_eq_some_iff.mp hi).1
        exact h ((List.getElem?_inj hlt hnd).mp (hq.trans hi.symm))
      show some (ad j, _) = some (ad j, _)
      rw [ho j hj]

theorem ib_in {i : Int32} {n : Nat} (h : ib i n = true) : vp_in i n := by
  simp only [ib, Bool.and_eq_true, Bool.not_eq_true', decide_eq_false_iff_not] at h
  intro q
  rcases q with q | q
  · exact h.1 q
  · exact absurd (Nat.le_of_ble_eq_true h.2) (by omega)
theorem hy_ty {cT : List (ClassId × FieldType)} {l : List FieldType} (h : cT.map Prod.snd = l) {t : Nat} {ty : FieldType} (ht : l[t]? = some ty) : cT[t]? = some (cid cT t, ty) := by
  rw [← h, List.getElem?_map] at ht
  unfold cid
  cases hc : cT[t]? with
  | none => rw [hc] at ht; cases ht
  | some q =>
    rw [hc] at ht
    obtain ⟨a, b⟩ := q
    simp only [Option.map_some, Option.some.injEq] at ht
    subst ht
    rfl
theorem cel_0 {sh : Shp} {cT : List (ClassId × FieldType)} {ad : Nat → Nat} {σ : St3} {k ci : Nat} {fs : List (Nat × Nat)} (h : sh k = some (0, ci, fs)) : cel sh cT ad σ k = .inr (ci, fs.map (fun q => cv ad (afv σ q))) := by unfold cel; rw [h]; rfl
theorem cel_1 {sh : Shp} {cT : List (ClassId × FieldType)} {ad : Nat → Nat} {σ : St3} {k n : Nat} {fs : List (Nat × Nat)} (h : sh k = some (1, n, fs)) : cel sh cT ad σ k = .inl (cid cT 0, n, .inl (ai (g3 σ k) k)) := by unfold cel; rw [h]; rfl
theorem cel_2 {sh : Shp} {cT : List (ClassId × FieldType)} {ad : Nat → Nat} {σ : St3} {k n : Nat} {fs : List (Nat × Nat)} (h : sh k = some (2, n, fs)) : cel sh cT ad σ k = .inl (cid cT 1, n, .inl (ai (g3 σ k) k)) := by unfold cel; rw [h]; rfl
theorem cel_3 {sh : Shp} {cT : List (ClassId × FieldType)} {ad : Nat → Nat} {σ : St3} {k n : Nat} {fs : List (Nat × Nat)} (h : sh k = some (3, n, fs)) : cel sh cT ad σ k = .inl (cid cT 2, n, .inr (.inl (al (g3 σ k) k))) := by unfold cel; rw [h]; rfl
theorem cel_4 {sh : Shp} {cT : List (ClassId × FieldType)} {ad : Nat → Nat} {σ : St3} {k n : Nat} {q : List (Nat × Nat)} (h : sh k = some (4, n, q)) : cel sh cT ad σ k = .inl (cid cT 3, n, .inr (.inr (.inr (.inr (fun j => some (ad ((q.map Prod.fst).getD 0 0 + j))))))) := by unfold cel; rw [h]; rfl
theorem cel_5 {sh : Shp} {cT : List (ClassId × FieldType)} {ad : Nat → Nat} {σ : St3} {k n : Nat} {q : List (Nat × Nat)} (h : sh k = some (5, n, q)) : cel sh cT ad σ k = .inl (cid cT 4, n, .inr (.inr (.inr (.inr (fun j => some (ad ((q.map Prod.fst).getD 0 0 + j))))))) := by unfold cel; rw [h]; rfl
theorem Pf_cel {sh : Shp} {cT : List (ClassId × FieldType)} {ad : Nat → Nat} {σ σ' : St3} {k ci b kd key : Nat} {fs : List (Nat × Nat)} {w : Value} (hu : ∀ (k ci : Nat) (fs : List (Nat × Nat)) (k' ci' : Nat) (fs' : List (Nat × Nat)) (b b' kd kd' key : Nat), sh k = some (0, ci, fs) → sh k' = some (0, ci', fs') → fs[b]? = some (kd, key) → fs'[b']? = some (kd', key) → kd ≠ 2 → kd' ≠ 2 → kcl kd = kcl kd' → k = k' ∧ b = b')
    (hk : sh k = some (0, ci, fs)) (hb : fs[b]? = some (kd, key)) (h : Pf σ kd key w σ') : cel sh cT ad σ' k = .inr (ci, (fs.map (fun q => cv ad (afv σ q))).set b (cv ad w)) ∧ ∀ j, j ≠ k → cel sh cT ad σ' j = cel sh cT ad σ j := by
  have hkd : kd ≠ 2 := by rcases h with ⟨rfl, -⟩ | ⟨rfl, -⟩ | ⟨rfl, -⟩ | ⟨rfl, -⟩ <;> decide
  constructor
  · rw [cel_0 hk]
    congr 2
    apply List.ext_getElem?
    intro i
    rw [List.getElem?_set, List.getElem?_map, List.getElem?_map, List.length_map]
    have hlt : b < fs.length := (List.getElem?_eq_some_iff.mp hb).1
    by_cases e : b = i
    · subst e
      rw [if_pos rfl, if_pos hlt, hb]
      show some (cv ad (afv σ' (kd, key))) = _
      rw [h.self]
    · rw [if_neg e]
      cases hi : fs[i]? with
      | none => rfl
      | some q =>
        obtain ⟨kd', key'⟩ := q
        show some (cv ad (afv σ' (kd', key'))) = some (cv ad (afv σ (kd', key')))
        rw [h.other (fun h1 h2 h3 => by subst h3; exact e (hu k ci fs k ci fs b i kd kd' _ hk hk hb hi hkd h2 h1.symm).2)]
  · intro j hj
    unfold cel
    rw [Pf_ai h, Pf_al h]
    cases hs : sh j with
    | none => rfl
    | some q =>
      obtain ⟨kk, n, fs'⟩ := q
      match kk with
      | 0 =>
        show Sum.inr (n, _) = Sum.inr (n, _)
        congr 2
        apply List.map_congr_left
        intro q hq
        obtain ⟨kd', key'⟩ := q
        obtain ⟨i, hi⟩ := List.getElem?_of_mem hq
        rw [h.other (fun h1 h2 h3 => by subst h3; exact hj (hu k ci fs j n fs' b i kd kd' _ hk hs hb hi hkd h2 h1.symm).1.symm)]
      | 1 => rfl
      | 2 => rfl
      | 3 => rfl
      | 4 => rfl
      | 5 => rfl
      | n + 6 => rfl
/-- a row's store -/
theorem ui_cel {sh : Shp} {cT : List (ClassId × FieldType)} {ad : Nat → Nat} {σ : St3} {k : Nat} {f : Nat → Int32} : (∀ j, j ≠ k → cel sh cT ad (p3 σ k (ui (g3 σ k) k f)) j = cel sh cT ad σ j) := by
  intro j hj
  have e : ∀ q, afv (p3 σ k (ui (g3 σ k) k f)) q = afv σ q := by
    intro q
    unfold afv
    rw [p3_o gi _ _ _ _ (fun j => gi_ui _ _ _ _), p3_o gl _ _ _ _ (fun j => gl_ui _ _ _ _), p3_o gr _ _ _ _ (fun j => gr_ui _ _ _ _)]
  unfold cel
  rw [ai_p3, if_neg hj, p3_o al _ _ _ _ (fun j => al_ui _ _ _ _), show (fun q => cv ad (afv (p3 σ k (ui (g3 σ k) k f)) q)) = (fun q => cv ad (afv σ q)) from funext fun q => by rw [e]]
theorem ul_cel {sh : Shp} {cT : List (ClassId × FieldType)} {ad : Nat → Nat} {σ : St3} {k : Nat} {f : Nat → Int64} : (∀ j, j ≠ k → cel sh cT ad (p3 σ k (ul (g3 σ k) k f)) j = cel sh cT ad σ j) := by
  intro j hj
  have e : ∀ q, afv (p3 σ k (ul (g3 σ k) k f)) q = afv σ q := by
    intro q
    unfold afv
    rw [p3_o gi _ _ _ _ (fun j => gi_ul _ _ _ _), p3_o gl _ _ _ _ (fun j => gl_ul _ _ _ _), p3_o gr _ _ _ _ (fun j => gr_ul _ _ _ _)]
  unfold cel
  rw [al_p3, if_neg hj, p3_o ai _ _ _ _ (fun j => ai_ul _ _ _ _), show (fun q => cv ad (afv (p3 σ k (ul (g3 σ k) k f)) q)) = (fun q => cv ad (afv σ q)) from funext fun q => by rw [e]]
