/-! ===== String's length and charAt, of a constant ===== -/
abbrev oN : Nat → Prop := fun _ => False
/-- what these methods need of the launch -/
def JP (a v len : Nat) (byt : List Int32) (U : State) (H : Heap) : Prop := kTxt a v len byt oN U H ∧ va_Z "java/lang/String" "COMPACT_STRINGS" "Z" (.int 1) oN U H ∧ va_Zq "jdk/internal/util/Preconditions" "SIOOBE_FORMATTER" "Ljava/util/function/BiFunction;" oN U H
theorem JP.moved {a v len : Nat} {byt : List Int32} {u U : State} {H : Heap} (hvm : u.vm.Alike U.vm) (h : JP a v len byt u H) : JP a v len byt U H := ⟨h.1.moved hvm, h.2.1.moved hvm, h.2.2.moved hvm⟩
theorem JP.kept {a v len : Nat} {byt : List Int32} {U : State} {H H1 : Heap} (h : JP a v len byt U H) (hq : ∀ a : Nat, a < H.size → ¬ oN a → H1[a]? = H[a]?) : JP a v len byt U H1 := ⟨h.1.kept hq, h.2.1.kept hq, h.2.2.kept hq⟩
def JB (a v len : Nat) (byt : List Int32) : State → Prop := fun U => JP a v len byt U U.heap
theorem JB_blind {a v len : Nat} {byt : List Int32} {as : List Value} : FrameBlind (va_Pc as (JB a v len byt)) := fun x U g mk q => ⟨q.1, JP.moved (U := U.calling g mk x) (Vm.Alike.refl U.vm) q.2⟩
/-- a contract that answers one int and leaves the heap -/
def JM (l : Launch) (y : MethodName) (bytes : ByteArray) (maxL : Nat) (ty : FieldType) (as : List Value) (B : State → Prop) (fr lo : Nat) (x : Int32) : Prop :=
  Met l y (Cond.code y bytes maxL (some ty) :: lw_tbl.filter goodWord) { frames := fr, cells := 0, slots := 0, locals := lo } (va_Pc as B) (va_Qi (fun r (_ : Unit) => r = x) (fun _ _ => True) oN) 0 0 oN
def JV (l : Launch) (y : MethodName) (bytes : ByteArray) (maxL : Nat) (as : List Value) (B : State → Prop) (fr lo : Nat) : Prop :=
  Met l y (Cond.code y bytes maxL none :: lw_tbl.filter goodWord) { frames := fr, cells := 0, slots := 0, locals := lo } (va_Pc as B) (va_Qv (fun _ : Unit => True) (fun _ _ => True) oN) 0 0 oN
theorem JM_of {l : Launch} {y : MethodName} {bytes : ByteArray} {maxL : Nat} {ty : FieldType} {as : List Value} {B : State → Prop} {fr lo : Nat} {x : Int32} (hpl : plainName y.cls = true) (hmx : (lg_sl as).length ≤ maxL) (hn : narrow ty (.int x) = .int x)
    (h : ∀ (p : Program) (e : Env) (s : State) (m : MethodId) (args : Array Value) (below : List Frame) (meth : Method) (c : Code) (Q : State → Prop) (ls : Array Slot), p.tables.exec = Jvm.exec → c.code = bytes → c.maxLocals = maxL → s.vm.findClass y.cls = some m.cls → (∀ w ∈ lw_tbl.filter goodWord, w.before args s = true) → B s → lv_has ls maxL (lv_args 0 as) →
      (∀ (H1 : Heap) (locs1 : List Loc) (pc : Nat) (ls1 : Array Slot), va_S oN s.heap H1 locs1 → decode bytes pc = .ok (.ireturn, 1) → W p l e { frames := fr, cells := 0, slots := 0, locals := lo } s m args below meth c H1 locs1 0 0 Q (F0 m pc ls1 [.int x])) →
      W p l e { frames := fr, cells := 0, slots := 0, locals := lo } s m args below meth c s.heap [] 0 0 Q (F0 m 0 ls [])) : JM l y bytes maxL ty as B fr lo x := by
  refine Met.ofW (cc := bytes) (maxL := maxL) (ret := some ty) hpl rfl ?_
  intro p e s m args below meth c s₁ Bd hml hv
  obtain ⟨rfl, hB⟩ := hv
  have hx := Bd.exec
  have hb := Bd.bytes
  have hr := Bd.returns
  have hts := atoms_spec (ws := Cond.code y bytes maxL (some ty) :: lw_tbl.filter goodWord) Bd.pre
  have hlocks := Bd.notSynchronized
  rw [lg_entry_eq]
  refine h p e s m _ below meth c _ _ hx hb hml (findClass_of_methodNamed Bd.named) (fun w hw => hts w (List.mem_cons_of_mem _ hw)) hB (lv_entry as hmx) ?_
  intro H1 locs1 pc ls1 hS1 hd
  exact W.zret (ty := ty) hx hb hr hn (fun t ht hW => ⟨⟨x, (), rfl, rfl, trivial⟩, hS1.F ht⟩) hS1.2.2 hd
theorem JV_of {l : Launch} {y : MethodName} {bytes : ByteArray} {maxL : Nat} {as : List Value} {B : State → Prop} {fr lo : Nat} (hpl : plainName y.cls = true) (hmx : (lg_sl as).length ≤ maxL)
    (h : ∀ (p : Program) (e : Env) (s : State) (m : MethodId) (args : Array Value) (below : List Frame) (meth : Method) (c : Code) (Q : State → Prop) (ls : Array Slot), p.tables.exec = Jvm.exec → c.code = bytes → c.maxLocals = maxL → s.vm.findClass y.cls = some m.cls → (∀ w ∈ lw_tbl.filter goodWord, w.before args s = true) → B s → lv_has ls maxL (lv_args 0 as) →
      (∀ (H1 : Heap) (locs1 : List Loc) (pc : Nat) (ls1 : Array Slot), va_S oN s.heap H1 locs1 → decode bytes pc = .ok (.return_, 1) → W p l e { frames := fr, cells := 0, slots := 0, locals := lo } s m args below meth c H1 locs1 0 0 Q (F0 m pc ls1 [])) →
      W p l e { frames := fr, cells := 0, slots := 0, locals := lo } s m args below meth c s.heap [] 0 0 Q (F0 m 0 ls [])) : JV l y bytes maxL as B fr lo := by
  refine Met.ofW (cc := bytes) (maxL := maxL) (ret := none) hpl rfl ?_
  intro p e s m args below meth c s₁ Bd hml hv
  obtain ⟨rfl, hB⟩ := hv
  have hx := Bd.exec
  have hb := Bd.bytes
  have hr := Bd.returns
  have hts := atoms_spec (ws := Cond.code y bytes maxL none :: lw_tbl.filter goodWord) Bd.pre
  have hlocks := Bd.notSynchronized
  rw [lg_entry_eq]
  refine h p e s m _ below meth c _ _ hx hb hml (findClass_of_methodNamed Bd.named) (fun w hw => hts w (List.mem_cons_of_mem _ hw)) hB (lv_entry as hmx) ?_
  intro H1 locs1 pc ls1 hS1 hd
  exact W.vret hx hb hr (fun t ht hW => ⟨⟨(), rfl, trivial, trivial⟩, hS1.F ht⟩) hS1.2.2 hd
section Blt
variable {l : Launch} {a v len : Nat} {byt : List Int32}
abbrev yCo : MethodName := ⟨"java/lang/String", "coder", "()B"⟩
abbrev yLt : MethodName := ⟨"java/lang/String", "isLatin1", "()Z"⟩
abbrev yLn : MethodName := ⟨"java/lang/String", "length", "()I"⟩
abbrev yCa : MethodName := ⟨"java/lang/String", "charAt", "(I)C"⟩
abbrev yCi : MethodName := ⟨"java/lang/String", "checkIndex", "(II)V"⟩
abbrev yLc : MethodName := ⟨"java/lang/StringLatin1", "charAt", "([BI)C"⟩
abbrev yPc : MethodName := ⟨"jdk/internal/util/Preconditions", "checkIndex", "(IILjava/util/function/BiFunction;)I"⟩
theorem j_coder : JM l yCo prog_22_method_152_code 1 .byte [.ref a] (JB a v len byt) 0 0 0 := by
  refine JM_of (by decide +kernel) (Nat.le_of_ble_eq_true rfl) rfl ?_
  intro p e s m args below meth c Q ls hx hb hml hown hts hB hl fin
  have hl : lv_has ls 1 [(0, .ref a)] := hl
  have hS : va_S oN s.heap s.heap [] := va_S.rf
  refine va_gets hx hb hB.2.1 hS hown (hts _ (wd_in (i := 757) (by decide +kernel))) (fun _ h => h) (show decode prog_22_method_152_code 0 = .ok (.getstatic 38, 3) by decide +kernel) ?_
  refine lv_if_eq (off := 10) (tgt := 13) hx hb (show decode prog_22_method_152_code 3 = .ok (.ifCond .eq 10, 3) by decide +kernel) (by decide) (fun h => absurd h (by decide)) (fun _ => ?_)
  refine lv_aload_n (i := 0) (k := 0) hx hb (show decode prog_22_method_152_code 6 = .ok (.aload_n 0, 1) by decide +kernel) rfl (lv_at hl 0 rfl) ?_
  refine vk_getf hx hb hB.1.2.1 hS hown (hts _ (wd_in (i := 1994) (by decide +kernel))) (fun _ h => h) (show decode prog_22_method_152_code 7 = .ok (.getfield 15, 3) by decide +kernel) ?_
  refine lv_goto (off := 4) (tgt := 14) hx hb (show decode prog_22_method_152_code 10 = .ok (.goto 4, 3) by decide +kernel) (by decide) ?_
  exact fin _ _ _ _ hS (by decide +kernel)
theorem j_lat : JM l yLt prog_22_method_154_code 1 .boolean [.ref a] (JB a v len byt) 0 0 1 := by
  refine JM_of (by decide +kernel) (Nat.le_of_ble_eq_true rfl) rfl ?_
  intro p e s m args below meth c Q ls hx hb hml hown hts hB hl fin
  have hl : lv_has ls 1 [(0, .ref a)] := hl
  have hS : va_S oN s.heap s.heap [] := va_S.rf
  refine va_gets hx hb hB.2.1 hS hown (hts _ (wd_in (i := 757) (by decide +kernel))) (fun _ h => h) (show decode prog_22_method_154_code 0 = .ok (.getstatic 38, 3) by decide +kernel) ?_
  refine lv_if_eq (off := 14) (tgt := 17) hx hb (show decode prog_22_method_154_code 3 = .ok (.ifCond .eq 14, 3) by decide +kernel) (by decide) (fun h => absurd h (by decide)) (fun _ => ?_)
  refine lv_aload_n (i := 0) (k := 0) hx hb (show decode prog_22_method_154_code 6 = .ok (.aload_n 0, 1) by decide +kernel) rfl (lv_at hl 0 rfl) ?_
  refine vk_getf hx hb hB.1.2.1 hS hown (hts _ (wd_in (i := 1994) (by decide +kernel))) (fun _ h => h) (show decode prog_22_method_154_code 7 = .ok (.getfield 15, 3) by decide +kernel) ?_
  refine lv_if_ne (off := 7) (tgt := 17) hx hb (show decode prog_22_method_154_code 10 = .ok (.ifCond .ne 7, 3) by decide +kernel) (by decide) (fun h => absurd rfl h) (fun _ => ?_)
  refine lv_iconst (v := 1) hx hb (show decode prog_22_method_154_code 13 = .ok (.iconst 1, 1) by decide +kernel) (by decide) ?_
  refine lv_goto (off := 4) (tgt := 18) hx hb (show decode prog_22_method_154_code 14 = .ok (.goto 4, 3) by decide +kernel) (by decide) ?_
  exact fin _ _ _ _ hS (by decide +kernel)
/-- a call of a String's own method on the constant -/
theorem j_pre {s : State} {H : Heap} {locs : List Loc} {as : List Value} (hB : JB a v len byt s) (hS : va_S oN s.heap H locs) : FrameBlind (va_Pc as (JB a v len byt)) ∧ ∀ U : State, U.heap = H → s.WarmedH U.vm → va_Pc as (JB a v len byt) as.toArray U :=
  ⟨JB_blind, fun U hU hW => ⟨rfl, by show JP a v len byt U U.heap; rw [hU]; exact (JP.kept hB hS.2.1).moved hW.alike⟩⟩
theorem j_rcv {s : State} {H : Heap} {locs : List Loc} (hB : JB a v len byt s) (hS : va_S oN s.heap H locs) : ∃ cellB : Cell, H[a]? = some cellB ∧ cellB.vm.isStatics = false ∧ s.vm.findClass "java/lang/String" = some cellB.cls := by
  obtain ⟨cell, h1, h2, h3, -⟩ := hB.1.1.kept hS.2.1
  exact ⟨cell, h1, h2, h3⟩
theorem j_len {n : Int32} (hn : Int32.ofNat len = n) : JM l yLn prog_22_method_54_code 1 .int [.ref a] (JB a v len byt) 4 256 n := by
  refine JM_of (by decide +kernel) (Nat.le_of_ble_eq_true rfl) rfl ?_
  intro p e s m args below meth c Q ls hx hb hml hown hts hB hl fin
  have hl : lv_has ls 1 [(0, .ref a)] := hl
  have hS : va_S oN s.heap s.heap [] := va_S.rf
  refine lv_aload_n (i := 0) (k := 0) hx hb (show decode prog_22_method_54_code 0 = .ok (.aload_n 0, 1) by decide +kernel) rfl (lv_at hl 0 rfl) ?_
  refine vk_getf hx hb hB.1.2.2.1 hS hown (hts _ (wd_in (i := 1993) (by decide +kernel))) (fun _ h => h) (show decode prog_22_method_54_code 1 = .ok (.getfield 9, 3) by decide +kernel) ?_
  refine va_tlen hx hb hB.1.2.2.2 hS hn (show decode prog_22_method_54_code 4 = .ok (.arraylength, 1) by decide +kernel) ?_
  refine lv_aload_n (i := 0) (k := 0) hx hb (show decode prog_22_method_54_code 5 = .ok (.aload_n 0, 1) by decide +kernel) rfl (lv_at hl 0 rfl) ?_
  refine va_calli (A0 := oN) (va_runV (y := yCo) (C := "java/lang/String") (b := a) (As := []) (rest := [.int n]) ⟨hx, hb, hml, hown, hts⟩ (j_coder (l := l) (a := a) (v := v) (len := len) (byt := byt)) ⟨callB_of 0 hts (good_tb (wd_in (i := 756) (by decide +kernel))) rfl rfl rfl (hts _ (wd_in (i := 110) (by decide +kernel))) (hts _ (wd_in (i := 753) (by decide +kernel))) ⟨by decide +kernel, by decide +kernel, by decide +kernel⟩ ⟨Nat.le_of_ble_eq_true rfl, Nat.le_of_ble_eq_true rfl⟩, hts _ (wd_in (i := 754) (by decide +kernel)), hts _ (wd_in (i := 755) (by decide +kernel))⟩
    ⟨(j_pre hB hS).1, j_rcv hB hS, (j_pre hB hS).2⟩ rfl rfl hl.1 rfl (lv_room (Nat.le_of_ble_eq_true rfl)) (show decode prog_22_method_54_code 6 = .ok (.invokevirtual 335, 3) by decide +kernel) ⟨Nat.le_refl _, Nat.le_refl _⟩) hS (fun q _ h => h) (fun q h => h) (fun r u t H1 locs1 ht hvm hr hB1 hz hk hS => ?_)
  subst hr
  refine lv_ishr hx hb (show decode prog_22_method_54_code 9 = .ok (.ishr, 1) by decide +kernel) ?_
  rw [show (0 : Int32) &&& 31 = 0 by decide, show n >>> (0 : Int32) = n from Int32.shiftRight_zero]
  exact fin _ _ _ _ hS (by decide +kernel)
theorem j_pc {i n : Int32} {f : Value} (hi : ¬ i < 0) (hin : i < n) (hf : f = .null ∨ ∃ t, f = .ref t) : JM l yPc prog_29_method_11_code 3 .int [.int i, .int n, f] (JB a v len byt) 0 0 i := by
  refine JM_of (by decide +kernel) (by rcases hf with rfl | ⟨t, rfl⟩ <;> exact Nat.le_of_ble_eq_true rfl) rfl ?_
  intro p e s m args below meth c Q ls hx hb hml hown hts hB hl fin
  have hl : lv_has ls 3 [(0, .int i), (1, .int n), (2, f)] := hl
  have hS : va_S oN s.heap s.heap [] := va_S.rf
  refine lv_iload_n (i := 0) (k := 0) hx hb (show decode prog_29_method_11_code 0 = .ok (.iload_n 0, 1) by decide +kernel) rfl (lv_at hl 0 rfl) ?_
  refine lv_if_lt (off := 8) (tgt := 9) hx hb (show decode prog_29_method_11_code 1 = .ok (.ifCond .lt 8, 3) by decide +kernel) (by decide) (fun h => absurd h hi) (fun _ => ?_)
  refine lv_iload_n (i := 0) (k := 0) hx hb (show decode prog_29_method_11_code 4 = .ok (.iload_n 0, 1) by decide +kernel) rfl (lv_at hl 0 rfl) ?_
  refine lv_iload_n (i := 1) (k := 1) hx hb (show decode prog_29_method_11_code 5 = .ok (.iload_n 1, 1) by decide +kernel) rfl (lv_at hl 1 rfl) ?_
  refine lv_icmp_lt (off := 10) (tgt := 16) hx hb (show decode prog_29_method_11_code 6 = .ok (.if_icmp .lt 10, 3) by decide +kernel) (by decide) (fun _ => ?_) (fun h => absurd hin h)
  refine lv_iload_n (i := 0) (k := 0) hx hb (show decode prog_29_method_11_code 16 = .ok (.iload_n 0, 1) by decide +kernel) rfl (lv_at hl 0 rfl) ?_
  exact fin _ _ _ _ hS (by decide +kernel)
theorem j_ci {i n : Int32} (hi : ¬ i < 0) (hin : i < n) : JV l yCi prog_22_method_155_code 2 [.int i, .int n] (JB a v len byt) 1 22 := by
  refine JV_of (by decide +kernel) (Nat.le_of_ble_eq_true rfl) ?_
  intro p e s m args below meth c Q ls hx hb hml hown hts hB hl fin
  have hl : lv_has ls 2 [(0, .int i), (1, .int n)] := hl
  have hS : va_S oN s.heap s.heap [] := va_S.rf
  refine lv_iload_n (i := 0) (k := 0) hx hb (show decode prog_22_method_155_code 0 = .ok (.iload_n 0, 1) by decide +kernel) rfl (lv_at hl 0 rfl) ?_
  refine lv_iload_n (i := 1) (k := 1) hx hb (show decode prog_22_method_155_code 1 = .ok (.iload_n 1, 1) by decide +kernel) rfl (lv_at hl 1 rfl) ?_
  have go : ∀ f : Value, (f = .null ∨ ∃ t, f = .ref t) → va_Z "jdk/internal/util/Preconditions" "SIOOBE_FORMATTER" "Ljava/util/function/BiFunction;" f oN s s.heap → W p l e { frames := 1, cells := 0, slots := 0, locals := 22 } s m args below meth c s.heap [] 0 0 Q (F0 m (0 + 1 + 1) ls [.int n, .int i]) := by
    intro f hf hz
    refine va_gets hx hb hz hS hown (hts _ (wd_in (i := 773) (by decide +kernel))) (fun _ h => h) (show decode prog_22_method_155_code 2 = .ok (.getstatic 1053, 3) by decide +kernel) ?_
    refine va_calli (A0 := oN) (va_runS (y := yPc) (As := [.int i, .int n, f]) (rest := []) ⟨hx, hb, hml, hown, hts⟩ (j_pc (l := l) (a := a) (v := v) (len := len) (byt := byt) hi hin hf) ⟨callB_of 3 hts (good_tb (wd_in (i := 777) (by decide +kernel))) rfl rfl rfl (hts _ (wd_in (i := 112) (by decide +kernel))) (hts _ (wd_in (i := 775) (by decide +kernel))) ⟨by decide +kernel, by decide +kernel, by decide +kernel⟩ ⟨Nat.le_of_ble_eq_true rfl, Nat.le_of_ble_eq_true rfl⟩, hts _ (wd_in (i := 776) (by decide +kernel))⟩
      (j_pre hB hS) rfl rfl hl.1 rfl (lv_room (Nat.le_of_ble_eq_true rfl)) (show decode prog_22_method_155_code 5 = .ok (.invokestatic 1059, 3) by decide +kernel) ⟨Nat.le_refl _, Nat.le_refl _⟩) hS (fun q _ h => h) (fun q h => h) (fun r u t H1 locs1 ht hvm hr hB1 hz hk hS => ?_)
    refine lv_pop hx hb (show decode prog_22_method_155_code 8 = .ok (.pop, 1) by decide +kernel) rfl ?_
    exact fin _ _ _ _ hS (by decide +kernel)
  rcases hB.2.2 with hz | ⟨t, hz⟩
  · exact go .null (Or.inl rfl) hz
  · exact go (.ref t) (Or.inr ⟨t, rfl⟩) hz
theorem j_lc {i n x : Int32} (hi : ¬ i < 0) (hn : Int32.ofNat len = n) (hin : i < n) (hx0 : vp_in i len) (hv : ((byt.getD i.toNatClampNeg 0 &&& 255).toUInt32 % 65536).toInt32 = x) (hnx : narrow .char (.int x) = .int x) : JM l yLc prog_23_method_2_code 2 .char [.ref v, .int i] (JB a v len byt) 2 43 x := by
  refine JM_of (by decide +kernel) (Nat.le_of_ble_eq_true rfl) hnx ?_
  intro p e s m args below meth c Q ls hx hb hml hown hts hB hl fin
  have hl : lv_has ls 2 [(0, .ref v), (1, .int i)] := hl
  have hS : va_S oN s.heap s.heap [] := va_S.rf
  refine lv_iload_n (i := 1) (k := 1) hx hb (show decode prog_23_method_2_code 0 = .ok (.iload_n 1, 1) by decide +kernel) rfl (lv_at hl 1 rfl) ?_
  refine lv_aload_n (i := 0) (k := 0) hx hb (show decode prog_23_method_2_code 1 = .ok (.aload_n 0, 1) by decide +kernel) rfl (lv_at hl 0 rfl) ?_
  refine va_tlen hx hb hB.1.2.2.2 hS hn (show decode prog_23_method_2_code 2 = .ok (.arraylength, 1) by decide +kernel) ?_
  refine va_callv (A0 := oN) (va_runS (y := yCi) (As := [.int i, .int n]) (rest := []) ⟨hx, hb, hml, hown, hts⟩ (j_ci (l := l) (a := a) (v := v) (len := len) (byt := byt) hi hin) ⟨callB_of 2 hts (good_tb (wd_in (i := 772) (by decide +kernel))) rfl rfl rfl (hts _ (wd_in (i := 110) (by decide +kernel))) (hts _ (wd_in (i := 770) (by decide +kernel))) ⟨by decide +kernel, by decide +kernel, by decide +kernel⟩ ⟨Nat.le_of_ble_eq_true rfl, Nat.le_of_ble_eq_true rfl⟩, hts _ (wd_in (i := 771) (by decide +kernel))⟩
    (j_pre hB hS) rfl rfl hl.1 rfl (lv_room (Nat.le_of_ble_eq_true rfl)) (show decode prog_23_method_2_code 3 = .ok (.invokestatic 9, 3) by decide +kernel) ⟨Nat.le_refl _, Nat.le_refl _⟩) hS (fun q _ h => h) (fun q h => h) (fun u t H1 locs1 ht hvm hr hB1 hz hk hS => ?_)
  refine lv_aload_n (i := 0) (k := 0) hx hb (show decode prog_23_method_2_code 6 = .ok (.aload_n 0, 1) by decide +kernel) rfl (lv_at hl 0 rfl) ?_
  refine lv_iload_n (i := 1) (k := 1) hx hb (show decode prog_23_method_2_code 7 = .ok (.iload_n 1, 1) by decide +kernel) rfl (lv_at hl 1 rfl) ?_
  refine va_tb hx hb hB.1.2.2.2 hS hx0 rfl (show decode prog_23_method_2_code 8 = .ok (.baload, 1) by decide +kernel) ?_
  refine lv_sipush (v := 255) hx hb (show decode prog_23_method_2_code 9 = .ok (.sipush 255, 3) by decide +kernel) (by decide) ?_
  refine lv_iand hx hb (show decode prog_23_method_2_code 12 = .ok (.iand, 1) by decide +kernel) ?_
  refine lv_i2c hx hb (show decode prog_23_method_2_code 13 = .ok (.i2c, 1) by decide +kernel) hv ?_
  exact fin _ _ _ _ hS (by decide +kernel)
theorem j_ca {i n x : Int32} (hi : ¬ i < 0) (hn : Int32.ofNat len = n) (hin : i < n) (hx0 : vp_in i len) (hv : ((byt.getD i.toNatClampNeg 0 &&& 255).toUInt32 % 65536).toInt32 = x) (hnx : narrow .char (.int x) = .int x) : JM l yCa prog_22_method_56_code 2 .char [.ref a, .int i] (JB a v len byt) 4 256 x := by
  refine JM_of (by decide +kernel) (Nat.le_of_ble_eq_true rfl) hnx ?_
  intro p e s m args below meth c Q ls hx hb hml hown hts hB hl fin
  have hl : lv_has ls 2 [(0, .ref a), (1, .int i)] := hl
  have hS : va_S oN s.heap s.heap [] := va_S.rf
  refine lv_aload_n (i := 0) (k := 0) hx hb (show decode prog_22_method_56_code 0 = .ok (.aload_n 0, 1) by decide +kernel) rfl (lv_at hl 0 rfl) ?_
  refine va_calli (A0 := oN) (va_runV (y := yLt) (C := "java/lang/String") (b := a) (As := []) (rest := []) ⟨hx, hb, hml, hown, hts⟩ (j_lat (l := l) (a := a) (v := v) (len := len) (byt := byt)) ⟨callB_of 0 hts (good_tb (wd_in (i := 766) (by decide +kernel))) rfl rfl rfl (hts _ (wd_in (i := 110) (by decide +kernel))) (hts _ (wd_in (i := 763) (by decide +kernel))) ⟨by decide +kernel, by decide +kernel, by decide +kernel⟩ ⟨Nat.le_of_ble_eq_true rfl, Nat.le_of_ble_eq_true rfl⟩, hts _ (wd_in (i := 764) (by decide +kernel)), hts _ (wd_in (i := 765) (by decide +kernel))⟩
    ⟨(j_pre hB hS).1, j_rcv hB hS, (j_pre hB hS).2⟩ rfl rfl hl.1 rfl (lv_room (Nat.le_of_ble_eq_true rfl)) (show decode prog_22_method_56_code 1 = .ok (.invokevirtual 492, 3) by decide +kernel) ⟨Nat.le_refl _, Nat.le_refl _⟩) hS (fun q _ h => h) (fun q h => h) (fun r u t H1 locs1 ht hvm hr hB1 hz hk hS => ?_)
  subst hr
  refine lv_if_eq (off := 12) (tgt := 16) hx hb (show decode prog_22_method_56_code 4 = .ok (.ifCond .eq 12, 3) by decide +kernel) (by decide) (fun h => absurd h (by decide)) (fun _ => ?_)
  refine lv_aload_n (i := 0) (k := 0) hx hb (show decode prog_22_method_56_code 7 = .ok (.aload_n 0, 1) by decide +kernel) rfl (lv_at hl 0 rfl) ?_
  refine vk_getf hx hb hB.1.2.2.1 hS hown (hts _ (wd_in (i := 1993) (by decide +kernel))) (fun _ h => h) (show decode prog_22_method_56_code 8 = .ok (.getfield 9, 3) by decide +kernel) ?_
  refine lv_iload_n (i := 1) (k := 1) hx hb (show decode prog_22_method_56_code 11 = .ok (.iload_n 1, 1) by decide +kernel) rfl (lv_at hl 1 rfl) ?_
  refine va_calli (A0 := oN) (va_runS (y := yLc) (As := [.ref v, .int i]) (rest := []) ⟨hx, hb, hml, hown, hts⟩ (j_lc (l := l) (a := a) (v := v) (len := len) (byt := byt) hi hn hin hx0 hv hnx) ⟨callB_of 2 hts (good_tb (wd_in (i := 769) (by decide +kernel))) rfl rfl rfl (hts _ (wd_in (i := 111) (by decide +kernel))) (hts _ (wd_in (i := 767) (by decide +kernel))) ⟨by decide +kernel, by decide +kernel, by decide +kernel⟩ ⟨Nat.le_of_ble_eq_true rfl, Nat.le_of_ble_eq_true rfl⟩, hts _ (wd_in (i := 768) (by decide +kernel))⟩
    (j_pre hB hS) rfl rfl hl.1 rfl (lv_room (Nat.le_of_ble_eq_true rfl)) (show decode prog_22_method_56_code 12 = .ok (.invokestatic 495, 3) by decide +kernel) ⟨Nat.le_refl _, Nat.le_refl _⟩) hS (fun q _ h => h) (fun q h => h) (fun r u t H1 locs1 ht hvm hr hB1 hz hk hS => ?_)
  subst hr
  exact fin _ _ _ _ hS (by decide +kernel)
end Blt
