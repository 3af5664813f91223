section IStep
variable {sh : Shp} {sc : Sct} {M : List MI} {big nsl : List Cond} {sts : List (String × Nat × String × Nat)} {cl : List vw_C} {pos : List Nat} {D : va_G} {cT : List (ClassId × FieldType)} {ad : Nat → Nat} {Hb : Heap} {XT : State → Prop}
variable {p : Program} {l : Launch} {e : Env} {R : Room} {s : State} {m : MethodId} {args : Array Value} {below : List Frame} {meth : Method} {c : Code}
/-- what is known of the classes -/
def CY (big : List Cond) (cl : List vw_C) : Prop := ∀ (ci : Nat) (C : String) (T : u_T) (N : Nat), cl[ci]? = some (C, T, N) → (∀ w ∈ u_ws C T N, w ∈ big.filter goodWord) ∧ (∃ ty0 : Nat → FieldType, ∀ k, k < N → parseFieldDescriptor (T k).2.2.1 = some (ty0 k)) ∧ ∀ a, a < N → ∀ b, b < N → a ≠ b → (T a).2.1 ≠ (T b).2.1
/-- what is known of the constants that are texts -/
def TY (sts : List (String × Nat × String × Nat)) (ad : Nat → Nat) (XT : State → Prop) : Prop := ∀ (i : Nat) (own : String) (idx : Nat) (tx : String) (a : Nat), sts[i]? = some (own, idx, tx, a) → ∀ U, XT U → vk_R own idx tx (ad a) U
theorem va_ldcSW {cc : ByteArray} {pc : Nat} {ls : Array Slot} {rest : List Value} {H : Heap} {locs : List Loc} {cells slots : Nat} {Q : State → Prop} (hexec : p.tables.exec = Jvm.exec) (hb : c.code = cc) {own tx : String} {index q : Nat} (hown : s.vm.findClass own = some m.cls) (hZ : vk_R own index tx q s) (hdg : decode cc pc = .ok (.ldc_w index, 3))
    (k : W p l e R s m args below meth c H locs cells slots Q (F0 m (pc + 3) ls (.ref q :: rest))) : W p l e R s m args below meth c H locs cells slots Q (F0 m pc ls rest) := by
  intro T hT X
  obtain ⟨t, a1, b1⟩ := k T hT X
  exact ⟨t, X.ldcStringW hexec hown (text := tx) (a := q) hZ.1 hZ.2 (g := F0 m pc ls rest) rfl (by rw [hb]; exact hdg) t a1, b1⟩
theorem fld_at {mi : MI} {pc idx a b : Nat} {put : Bool} (h : fldOk big cl mi pc idx a b put = true) : ∃ C T N, cl[a]? = some (C, T, N) ∧ b < N ∧ Cond.fieldLink mi.y.cls idx (T b).1 (T b).2.1 (T b).2.2.1 ∈ big.filter goodWord ∧ (put = true → (T b).2.2.2 = false) := by
  unfold fldOk at h
  split at h
  · rename_i C T N hc
    simp only [Bool.and_eq_true, decide_eq_true_eq] at h
    refine ⟨C, T, N, hc, h.1.1, wd_in h.1.2, fun hp => ?_⟩
    have := h.2
    rw [if_pos hp] at this
    simpa using this
  · cases h
set_option maxHeartbeats 4000000 in
set_option maxRecDepth 100000 in
theorem istepS {mi : MI} (hy : HY sh sc pos cl cT ad Hb XT) (hck : chkM M big nsl sts cl mi = true) (hcy : CY big cl) (hty : TY sts ad XT)
    (hx : p.tables.exec = Jvm.exec) (hb : c.code = mi.bytes) (hown : s.vm.findClass mi.y.cls = some m.cls) (hts : ∀ w ∈ big.filter goodWord, w.before args s = true)
    (hlo : Hb.size ≤ s.heap.size ∧ ∀ q : Nat, q < Hb.size → s.heap[q]? = Hb[q]?)
    {pc pc' : Nat} {L L' : Lo} {st st' : List Value} {σ σ' : St3} (h : istep sh sc mi pc L st σ = some (pc', L', st', σ'))
    {H : Heap} {locs : List Loc} {cells slots : Nat} {ls : Array Slot} {Q : State → Prop} (hW : WD sh pos D cl cT ad Hb XT σ s H) (hS : va_S (AX Hb) s.heap H locs) (hl : LH ad ls mi.maxL L)
    (kk : ∀ (H1 : Heap) (locs1 : List Loc) (ls1 : Array Slot), WD sh pos D cl cT ad Hb XT σ' s H1 → va_S (AX Hb) s.heap H1 locs1 → LH ad ls1 mi.maxL L' → W p l e R s m args below meth c H1 locs1 cells slots Q (F0 m pc' ls1 (st'.map (cv ad)))) :
    W p l e R s m args below meth c H locs cells slots Q (F0 m pc ls (st.map (cv ad))) := by
  unfold istep at h
  cases hc : mi.code pc with
  | none => rw [hc] at h; cases h
  | some ent =>
    rw [hc] at h
    have hk := chk_at M big nsl sts cl hck hc
    obtain ⟨ins, len, a, b, v⟩ := ent
    unfold chkE at hk
    rw [Bool.and_eq_true] at hk
    obtain ⟨hd0, hk⟩ := hk
    have hd := of_decide_eq_true hd0
    obtain ⟨hP, hK, hz, hq, hXT⟩ := id hW
    have hD := ws_D hy σ
    cases ins with
    | iconst n =>
      dsimp only at h hk hd
      simp only [Bool.and_eq_true, decide_eq_true_eq] at hk
      obtain ⟨hk1, rfl⟩ := hk
      obtain rfl := len1 hk1
      cases h
      exact lv_iconst hx hb hd rfl (kk H locs ls hW hS hl)
    | bipush n =>
      dsimp only at h hk hd
      simp only [Bool.and_eq_true, decide_eq_true_eq] at hk
      obtain ⟨hk1, rfl⟩ := hk
      obtain rfl := len2 hk1
      cases h
      exact lv_bipush hx hb hd rfl (kk H locs ls hW hS hl)
    | sipush n =>
      dsimp only at h hk hd
      simp only [Bool.and_eq_true, decide_eq_true_eq] at hk
      obtain ⟨hk1, rfl⟩ := hk
      obtain rfl := len3 hk1
      cases h
      exact lv_sipush hx hb hd rfl (kk H locs ls hW hS hl)
    | lconst n =>
      dsimp only at h hk hd
      simp only [Bool.and_eq_true, decide_eq_true_eq] at hk
      obtain ⟨hk1, rfl⟩ := hk
      obtain rfl := len1 hk1
      cases h
      exact lv_lconst hx hb hd rfl (kk H locs ls hW hS hl)
    | ldc idx =>
      dsimp only at h hk hd
      rw [Bool.and_eq_true] at hk
      obtain ⟨hk1, hk2⟩ := hk
      obtain rfl := len2 hk1
      cases h
      unfold ldcOk at hk2
      split at hk2
      · exact lv_ldc hx hb hown (hts _ (wd_in hk2)) hd (kk H locs ls hW hS hl)
      · rename_i a'
        cases hq2 : sts[mi.pls pc]? with
        | none => rw [hq2] at hk2; cases hk2
        | some q =>
          rw [hq2] at hk2
          obtain ⟨own, idx', tx, a2⟩ := q
          simp only [Option.any_some, Bool.and_eq_true, decide_eq_true_eq] at hk2
          obtain ⟨⟨rfl, h2⟩, h3⟩ := hk2
          obtain rfl := Nat.eq_of_beq_eq_true h2
          obtain rfl := Nat.eq_of_beq_eq_true h3
          exact va_ldcS hx hb hown (hty _ _ _ _ _ hq2 s hXT) hd (kk H locs ls hW hS hl)
      · cases hk2
    | ldc_w idx =>
      dsimp only at h hk hd
      rw [Bool.and_eq_true] at hk
      obtain ⟨hk1, hk2⟩ := hk
      obtain rfl := len3 hk1
      cases h
      unfold ldcOk at hk2
      split at hk2
      · exact lv_ldcw hx hb hown (hts _ (wd_in hk2)) hd (kk H locs ls hW hS hl)
      · rename_i a'
        cases hq2 : sts[mi.pls pc]? with
        | none => rw [hq2] at hk2; cases hk2
        | some q =>
          rw [hq2] at hk2
          obtain ⟨own, idx', tx, a2⟩ := q
          simp only [Option.any_some, Bool.and_eq_true, decide_eq_true_eq] at hk2
          obtain ⟨⟨rfl, h2⟩, h3⟩ := hk2
          obtain rfl := Nat.eq_of_beq_eq_true h2
          obtain rfl := Nat.eq_of_beq_eq_true h3
          exact va_ldcSW hx hb hown (hty _ _ _ _ _ hq2 s hXT) hd (kk H locs ls hW hS hl)
      · cases hk2
    | ldc2_w idx =>
      dsimp only at h hk hd
      rw [Bool.and_eq_true] at hk
      obtain ⟨hk1, hk2⟩ := hk
      obtain rfl := len3 hk1
      cases h
      split at hk2
      · exact lv_ldc2 hx hb hown (hts _ (wd_in hk2)) hd (kk H locs ls hW hS hl)
      · cases hk2
    | iload i =>
      dsimp only at h hk hd
      obtain rfl := len2 hk
      obtain ⟨v, hv, hq⟩ := push_at h
      cases hq
      obtain ⟨x, rfl, hx2⟩ := ldI_at hv
      exact lv_iload hx hb hd (hl.at hx2) (kk H locs ls hW hS hl)
    | iload_n i =>
      dsimp only at h hk hd
      obtain rfl := len1 hk
      obtain ⟨v, hv, hq⟩ := push_at h
      cases hq
      obtain ⟨x, rfl, hx2⟩ := ldI_at hv
      exact lv_iload_n hx hb hd rfl (hl.at hx2) (kk H locs ls hW hS hl)
    | lload i =>
      dsimp only at h hk hd
      obtain rfl := len2 hk
      obtain ⟨v, hv, hq⟩ := push_at h
      cases hq
      obtain ⟨x, rfl, hx2⟩ := ldL_at hv
      exact lv_lload hx hb hd (hl.at hx2) (kk H locs ls hW hS hl)
    | lload_n i =>
      dsimp only at h hk hd
      obtain rfl := len1 hk
      obtain ⟨v, hv, hq⟩ := push_at h
      cases hq
      obtain ⟨x, rfl, hx2⟩ := ldL_at hv
      exact lv_lload_n hx hb hd rfl (hl.at hx2) (kk H locs ls hW hS hl)
    | aload i =>
      dsimp only at h hk hd
      obtain rfl := len2 hk
      obtain ⟨v, hv, hq⟩ := push_at h
      cases hq
      obtain ⟨x, rfl, hx2⟩ := ldA_at hv
      exact lv_aload hx hb hd (hl.at hx2) (kk H locs ls hW hS hl)
    | aload_n i =>
      dsimp only at h hk hd
      obtain rfl := len1 hk
      obtain ⟨v, hv, hq⟩ := push_at h
      cases hq
      obtain ⟨x, rfl, hx2⟩ := ldA_at hv
      exact lv_aload_n hx hb hd rfl (hl.at hx2) (kk H locs ls hW hS hl)
    | istore i =>
      dsimp only at h hk hd
      obtain rfl := len2 hk
      obtain ⟨x, r, rfl, hi, hq⟩ := stoI_at h
      cases hq
      exact lv_istore hx hb hd hl.2 (by rw [← hl.1]; exact hi) rfl (fun ls' h' => kk H locs ls' hW hS (LH_1 (v := .int x) hl.1 h'))
    | istore_n i =>
      dsimp only at h hk hd
      obtain rfl := len1 hk
      obtain ⟨x, r, rfl, hi, hq⟩ := stoI_at h
      cases hq
      exact lv_istore_n hx hb hd rfl hl.2 (by rw [← hl.1]; exact hi) rfl (fun ls' h' => kk H locs ls' hW hS (LH_1 (v := .int x) hl.1 h'))
    | lstore i =>
      dsimp only at h hk hd
      obtain rfl := len2 hk
      obtain ⟨x, r, rfl, hi, hq⟩ := stoL_at h
      cases hq
      exact lv_lstore hx hb hd hl.2 (by rw [← hl.1]; exact hi) rfl (fun ls' h' => kk H locs ls' hW hS (LH_2 (v := .long x) hl.1 (fun _ q => by cases q) h'))
    | lstore_n i =>
      dsimp only at h hk hd
      obtain rfl := len1 hk
      obtain ⟨x, r, rfl, hi, hq⟩ := stoL_at h
      cases hq
      exact lv_lstore_n hx hb hd rfl hl.2 (by rw [← hl.1]; exact hi) rfl (fun ls' h' => kk H locs ls' hW hS (LH_2 (v := .long x) hl.1 (fun _ q => by cases q) h'))
    | astore i =>
      dsimp only at h hk hd
      obtain rfl := len2 hk
      obtain ⟨x, r, rfl, hi, hq⟩ := stoA_at h
      cases hq
      exact lv_astore hx hb hd hl.2 (by rw [← hl.1]; exact hi) rfl (fun ls' h' => kk H locs ls' hW hS (LH_1 (v := .ref x) hl.1 h'))
    | astore_n i =>
      dsimp only at h hk hd
      obtain rfl := len1 hk
      obtain ⟨x, r, rfl, hi, hq⟩ := stoA_at h
      cases hq
      exact lv_astore_n hx hb hd rfl hl.2 (by rw [← hl.1]; exact hi) rfl (fun ls' h' => kk H locs ls' hW hS (LH_1 (v := .ref x) hl.1 h'))
    | iinc i n =>
      dsimp only at h hk hd
      simp only [Bool.and_eq_true, decide_eq_true_eq] at hk
      obtain ⟨hk1, rfl⟩ := hk
      obtain rfl := len3 hk1
      split at h
      · rename_i x hx2
        cases h
        have hi : i < mi.maxL := by rw [← hl.1]; exact (List.getElem?_eq_some_iff.mp hx2).1
        obtain ⟨k, hk2⟩ := List.getElem?_of_mem (mem_alo.mpr ⟨_, hx2, rfl⟩ : (i, cv ad (.int x)) ∈ alo ad L)
        exact lv_iinc hx hb hd hl.2 hk2 rfl hi rfl (fun ls' h' => kk H locs ls' hW hS (LH_1 (v := .int _) hl.1 h'))
      · cases h
    | iadd => dsimp only at h hk hd; obtain rfl := len1 hk; obtain ⟨x, y, r, rfl, hq⟩ := binI_at h; cases hq; exact lv_iadd hx hb hd (kk H locs ls hW hS hl)
    | isub => dsimp only at h hk hd; obtain rfl := len1 hk; obtain ⟨x, y, r, rfl, hq⟩ := binI_at h; cases hq; exact lv_isub hx hb hd (kk H locs ls hW hS hl)
    | imul => dsimp only at h hk hd; obtain rfl := len1 hk; obtain ⟨x, y, r, rfl, hq⟩ := binI_at h; cases hq; exact lv_imul hx hb hd (kk H locs ls hW hS hl)
    | iand => dsimp only at h hk hd; obtain rfl := len1 hk; obtain ⟨x, y, r, rfl, hq⟩ := binI_at h; cases hq; exact lv_iand hx hb hd (kk H locs ls hW hS hl)
    | ior => dsimp only at h hk hd; obtain rfl := len1 hk; obtain ⟨x, y, r, rfl, hq⟩ := binI_at h; cases hq; exact lv_ior hx hb hd (kk H locs ls hW hS hl)
    | ixor => dsimp only at h hk hd; obtain rfl := len1 hk; obtain ⟨x, y, r, rfl, hq⟩ := binI_at h; cases hq; exact lv_ixor hx hb hd (kk H locs ls hW hS hl)
    | ishl => dsimp only at h hk hd; obtain rfl := len1 hk; obtain ⟨x, y, r, rfl, hq⟩ := binI_at h; cases hq; exact lv_ishl hx hb hd (kk H locs ls hW hS hl)
    | ishr => dsimp only at h hk hd; obtain rfl := len1 hk; obtain ⟨x, y, r, rfl, hq⟩ := binI_at h; cases hq; exact lv_ishr hx hb hd (kk H locs ls hW hS hl)
    | iushr => dsimp only at h hk hd; obtain rfl := len1 hk; obtain ⟨x, y, r, rfl, hq⟩ := binI_at h; cases hq; exact lv_iushr hx hb hd rfl (kk H locs ls hW hS hl)
    | ladd => dsimp only at h hk hd; obtain rfl := len1 hk; obtain ⟨x, y, r, rfl, hq⟩ := binL_at h; cases hq; exact lv_ladd hx hb hd (kk H locs ls hW hS hl)
    | lsub => dsimp only at h hk hd; obtain rfl := len1 hk; obtain ⟨x, y, r, rfl, hq⟩ := binL_at h; cases hq; exact lv_lsub hx hb hd (kk H locs ls hW hS hl)
    | lmul => dsimp only at h hk hd; obtain rfl := len1 hk; obtain ⟨x, y, r, rfl, hq⟩ := binL_at h; cases hq; exact lv_lmul hx hb hd (kk H locs ls hW hS hl)
    | land => dsimp only at h hk hd; obtain rfl := len1 hk; obtain ⟨x, y, r, rfl, hq⟩ := binL_at h; cases hq; exact lv_land hx hb hd (kk H locs ls hW hS hl)
    | lor => dsimp only at h hk hd; obtain rfl := len1 hk; obtain ⟨x, y, r, rfl, hq⟩ := binL_at h; cases hq; exact lv_lor hx hb hd (kk H locs ls hW hS hl)
    | lxor => dsimp only at h hk hd; obtain rfl := len1 hk; obtain ⟨x, y, r, rfl, hq⟩ := binL_at h; cases hq; exact lv_lxor hx hb hd (kk H locs ls hW hS hl)
    | idiv =>
      dsimp only at h hk hd; obtain rfl := len1 hk
      split at h
      · obtain ⟨h1, h2⟩ := bif_at h; cases h2; exact lv_idiv hx hb hd (nzI_at h1) (kk H locs ls hW hS hl)
      · cases h
    | irem =>
      dsimp only at h hk hd; obtain rfl := len1 hk
      split at h
      · obtain ⟨h1, h2⟩ := bif_at h; cases h2; exact lv_irem hx hb hd (nzI_at h1) (kk H locs ls hW hS hl)
      · cases h
    | ldiv =>
      dsimp only at h hk hd; obtain rfl := len1 hk
      split at h
      · obtain ⟨h1, h2⟩ := bif_at h; cases h2; exact lv_ldiv hx hb hd (nzL_at h1) (kk H locs ls hW hS hl)
      · cases h
    | lrem =>
      dsimp only at h hk hd; obtain rfl := len1 hk
      split at h
      · obtain ⟨h1, h2⟩ := bif_at h; cases h2; exact lv_lrem hx hb hd (nzL_at h1) (kk H locs ls hW hS hl)
      · cases h
    | ineg =>
      dsimp only at h hk hd; obtain rfl := len1 hk
      split at h
      · cases h; exact lv_ineg hx hb hd (kk H locs ls hW hS hl)
      · cases h
    | lneg =>
      dsimp only at h hk hd; obtain rfl := len1 hk
      split at h
      · cases h; exact lv_lneg hx hb hd (kk H locs ls hW hS hl)
      · cases h
    | lshl =>
      dsimp only at h hk hd; obtain rfl := len1 hk
      split at h
      · cases h; exact lv_lshl hx hb hd rfl (kk H locs ls hW hS hl)
      · cases h
    | lshr =>
      dsimp only at h hk hd; obtain rfl := len1 hk
      split at h
      · cases h; exact lv_lshr hx hb hd rfl (kk H locs ls hW hS hl)
      · cases h
    | lushr =>
      dsimp only at h hk hd; obtain rfl := len1 hk
      split at h
      · cases h; exact lv_lushr hx hb hd rfl (kk H locs ls hW hS hl)
      · cases h
    | lcmp =>
      dsimp only at h hk hd; obtain rfl := len1 hk
      split at h
      · cases h; exact W.lcmp hx hb hd (kk H locs ls hW hS hl)
      · cases h
    | i2l =>
      dsimp only at h hk hd; obtain rfl := len1 hk
      split at h
      · cases h; exact lv_i2l hx hb hd rfl (kk H locs ls hW hS hl)
      · cases h
    | l2i =>
      dsimp only at h hk hd; obtain rfl := len1 hk
      split at h
      · cases h; exact lv_l2i hx hb hd rfl (kk H locs ls hW hS hl)
      · cases h
    | dup =>
      dsimp only at h hk hd; obtain rfl := len1 hk
      split at h
      · cases h; exact lv_dup hx hb hd rfl (kk H locs ls hW hS hl)
      · cases h; exact lv_dup hx hb hd rfl (kk H locs ls hW hS hl)
      · cases h
    | dup2 =>
      dsimp only at h hk hd; obtain rfl := len1 hk
      split at h
      · cases h; exact lv_dup2_11 hx hb hd rfl rfl (kk H locs ls hW hS hl)
      · cases h
    | pop =>
      dsimp only at h hk hd; obtain rfl := len1 hk
      split at h
      · cases h; exact lv_pop hx hb hd rfl (kk H locs ls hW hS hl)
      · cases h; exact lv_pop hx hb hd rfl (kk H locs ls hW hS hl)
      · cases h
    | goto off =>
      dsimp only at h hk hd
      rw [Bool.and_eq_true] at hk
      obtain rfl := len3 hk.1
      cases h
      exact lv_goto hx hb hd (tgt_at hk.2) (kk H locs ls hW hS hl)
    | ifCond cc off =>
      dsimp only at h hk hd
      rw [Bool.and_eq_true] at hk
      obtain rfl := len3 hk.1
      have ht := tgt_at hk.2
      split at h
      · cases h
        cases cc with
        | eq => exact lv_if_eq hx hb hd ht (fun q => by have := kk H locs ls hW hS hl; rw [cmpI, if_pos q] at this; exact this) (fun q => by have := kk H locs ls hW hS hl; rw [cmpI, if_neg q] at this; exact this)
        | ne => exact lv_if_ne hx hb hd ht (fun q => by have := kk H locs ls hW hS hl; rw [cmpI, if_pos q] at this; exact this) (fun q => by have := kk H locs ls hW hS hl; rw [cmpI, if_neg (fun z => z q)] at this; exact this)
        | lt => exact lv_if_lt hx hb hd ht (fun q => by have := kk H locs ls hW hS hl; rw [cmpI, if_pos q] at this; exact this) (fun q => by have := kk H locs ls hW hS hl; rw [cmpI, if_neg q] at this; exact this)
        | ge => exact lv_if_ge hx hb hd ht (fun q => by have := kk H locs ls hW hS hl; rw [cmpI, if_pos q] at this; exact this) (fun q => by have := kk H locs ls hW hS hl; rw [cmpI, if_neg q] at this; exact this)
        | gt => exact lv_if_gt hx hb hd ht (fun q => by have := kk H locs ls hW hS hl; rw [cmpI, if_pos q] at this; exact this) (fun q => by have := kk H locs ls hW hS hl; rw [cmpI, if_neg q] at this; exact this)
        | le => exact lv_if_le hx hb hd ht (fun q => by have := kk H locs ls hW hS hl; rw [cmpI, if_pos q] at this; exact this) (fun q => by have := kk H locs ls hW hS hl; rw [cmpI, if_neg q] at this; exact this)
      · cases h
    | if_icmp cc off =>
      dsimp only at h hk hd
      rw [Bool.and_eq_true] at hk
      obtain rfl := len3 hk.1
      have ht := tgt_at hk.2
      split at h
      · cases h
        cases cc with
        | eq => exact lv_icmp_eq hx hb hd ht (fun q => by have := kk H locs ls hW hS hl; rw [cmpI, if_pos q] at this; exact this) (fun q => by have := kk H locs ls hW hS hl; rw [cmpI, if_neg q] at this; exact this)
        | ne => exact lv_icmp_ne hx hb hd ht (fun q => by have := kk H locs ls hW hS hl; rw [cmpI, if_pos q] at this; exact this) (fun q => by have := kk H locs ls hW hS hl; rw [cmpI, if_neg (fun z => z q)] at this; exact this)
        | lt => exact lv_icmp_lt hx hb hd ht (fun q => by have := kk H locs ls hW hS hl; rw [cmpI, if_pos q] at this; exact this) (fun q => by have := kk H locs ls hW hS hl; rw [cmpI, if_neg q] at this; exact this)
        | ge => exact lv_icmp_ge hx hb hd ht (fun q => by have := kk H locs ls hW hS hl; rw [cmpI, if_pos q] at this; exact this) (fun q => by have := kk H locs ls hW hS hl; rw [cmpI, if_neg q] at this; exact this)
        | gt => exact lv_icmp_gt hx hb hd ht (fun q => by have := kk H locs ls hW hS hl; rw [cmpI, if_pos q] at this; exact this) (fun q => by have := kk H locs ls hW hS hl; rw [cmpI, if_neg q] at this; exact this)
        | le => exact lv_icmp_le hx hb hd ht (fun q => by have := kk H locs ls hW hS hl; rw [cmpI, if_pos q] at this; exact this) (fun q => by have := kk H locs ls hW hS hl; rw [cmpI, if_neg q] at this; exact this)
      · cases h
    | tableswitch dflt lo hi offs =>
      dsimp only at h hk hd
      unfold swOk at hk
      simp only [Bool.and_eq_true, decide_eq_true_eq] at hk
      obtain ⟨⟨⟨⟨⟨h1, h2⟩, h3⟩, h4⟩, h5⟩, h6⟩ := hk
      split at h
      · rename_i x r
        cases h
        rw [h1] at kk
        by_cases q : x.toInt < lo ∨ hi < x.toInt
        · refine lv_tableOut hx hb hd q (tgt_at h6) ?_
          have := kk H locs ls hW hS hl
          rw [swp_out _ _ (by omega) h3 (by omega)] at this
          exact this
        · have hlen : (x.toInt - lo).toNat < offs.toList.length := by omega
          have ho : offs.toList[(x.toInt - lo).toNat]? = some (offs.toList[(x.toInt - lo).toNat]) := List.getElem?_eq_getElem hlen
          have hpos := List.all_eq_true.mp h5 _ (List.mem_of_getElem? ho)
          have hpos := of_decide_eq_true hpos
          refine lv_tableIn hx hb hd (fun z => q (Or.inl z)) (fun z => q (Or.inr z)) (by rw [← Array.getElem?_toList]; exact ho) (tgt := ((pc : Int) + offs.toList[(x.toInt - lo).toNat]).toNat) (by omega) ?_
          have := kk H locs ls hW hS hl
          rw [swp_in _ _ _ (by omega) ho h3 (by omega)] at this
          exact this
      · cases h
    | getfield idx =>
      dsimp only at h hk hd
      rw [Bool.and_eq_true] at hk
      obtain rfl := len3 hk.1
      obtain ⟨C, T, N, hcl, hbN, hlink, -⟩ := fld_at hk.2
      split at h
      · rename_i k r
        split at h
        · rename_i ci fs hsh
          cases hci : Nat.beq ci a with
          | false => rw [hci] at h; cases h
          | true =>
            rw [hci] at h
            obtain rfl := Nat.eq_of_beq_eq_true hci
            dsimp only [cond_true] at h
            split at h
            · rename_i q hq2
              cases h
              obtain ⟨q0, hq0, -⟩ := ws_at sh pos cT ad (σ := σ) (hy.1 k _ hsh (Nat.zero_le _))
              rw [cel_0 hsh] at hq0
              obtain ⟨c1, -, -⟩ := hcy _ _ _ _ hcl
              exact va_get (D := D) hx hb hts c1 hown hK hP q0 hq0 hcl b hbN (hts _ hlink) (fun _ h9 => h9) (v := cv ad (afv σ q)) (by rw [List.getElem?_map, hq2]; rfl) hd (kk H locs ls hW hS hl)
            · cases h
        · cases h
      · cases h
    | putfield idx =>
      dsimp only at h hk hd
      rw [Bool.and_eq_true] at hk
      obtain rfl := len3 hk.1
      obtain ⟨C, T, N, hcl, hbN, hlink, hfin⟩ := fld_at hk.2
      obtain ⟨c1, ⟨ty0, c2⟩, c3⟩ := hcy _ _ _ _ hcl
      have key : ∀ (w : Value) (k ci kd key : Nat) (r : List Value) (fs : List (Nat × Nat)), st = w :: .ref k :: r → sh k = some (0, ci, fs) → ci = a → fs[b]? = some (kd, key) → Pf σ kd key w σ' → pc' = pc + 3 → L' = L → st' = r → W p l e R s m args below meth c H locs cells slots Q (F0 m pc ls (st.map (cv ad))) := by
        intro w k ci kd key r fs e1 hsh e2 hfs hPf e3 e4 e5
        subst e1; subst e2; subst e3; subst e4; subst e5
        obtain ⟨q0, hq0, hpq⟩ := ws_at sh pos cT ad (σ := σ) (hy.1 k _ hsh (Nat.zero_le _))
        rw [cel_0 hsh] at hq0
        obtain ⟨-, hnd, -, -, -, hshy, huniq, -⟩ := id hy
        obtain ⟨C', T', N', hcl', hty'⟩ := hshy k ci fs hsh
        rw [hcl] at hcl'
        cases hcl'
        obtain ⟨t0, t1, t3, t4⟩ := hty' b kd key hfs
        obtain ⟨hce, hco⟩ := Pf_cel (cT := cT) (ad := ad) huniq hsh hfs hPf
        have hset := ws_set (cT := cT) (ad := ad) hnd hpq hce hco
        have fin : ∀ (ty : FieldType), parseFieldDescriptor (T b).2.2.1 = some ty → narrow ty (cv ad w) = cv ad w → fits ty (cv ad w) = true → W p l e R s m args below meth c H locs cells slots Q (F0 m pc ls ((w :: .ref k :: st').map (cv ad))) := by
          intro ty hp1 hp2 hp3
          refine va_put (D := D) (A := AX Hb) (H0 := s.heap) hx hb hts c1 ty0 c2 c3 hown hK hP hD hS q0 hq0 hcl b hbN (hts _ hlink) (fun _ h9 => h9) (hfin rfl) hp1 hp2 hp3 (by rw [List.length_map]; exact (List.getElem?_eq_some_iff.mp hfs).1) hd (fun H1 locs1 hP1 hD1 hS1 => ?_)
          rw [hset] at hP1
          obtain ⟨z1, z2⟩ := lowS (A := AX Hb) hlo hS1
          exact kk H1 locs1 ls ⟨hP1, hK, z1, z2, hXT⟩ hS1 hl
        rcases hPf with ⟨rfl, x, rfl, -⟩ | ⟨rfl, x, rfl, -⟩ | ⟨rfl, x, rfl, -⟩ | ⟨rfl, x, hx01, rfl, -⟩
        · exact fin .int (t0 rfl) rfl rfl
        · exact fin .long (t1 rfl) rfl rfl
        · exact fin (.array .long) (t3 rfl) rfl rfl
        · refine fin .boolean (t4 rfl) ?_ ?_
          · rcases hx01 with rfl | rfl <;> rfl
          · rcases hx01 with rfl | rfl <;> rfl
      split at h
      · rename_i w k r
        split at h
        · rename_i ci fs hsh
          cases hci : Nat.beq ci a with
          | false => rw [hci] at h; cases h
          | true =>
            rw [hci] at h
            have hca := Nat.eq_of_beq_eq_true hci
            dsimp only [cond_true] at h
            split at h
            · rename_i kf hfs
              split at h
              · cases h; exact key _ k ci 0 kf _ fs rfl hsh hca hfs (Or.inl ⟨rfl, _, rfl, rfl⟩) rfl rfl rfl
              · cases h
            · rename_i kf hfs
              split at h
              · cases h; exact key _ k ci 1 kf _ fs rfl hsh hca hfs (Or.inr (Or.inl ⟨rfl, _, rfl, rfl⟩)) rfl rfl rfl
              · cases h
            · rename_i kf hfs
              split at h
              · cases h; exact key _ k ci 3 kf _ fs rfl hsh hca hfs (Or.inr (Or.inr (Or.inl ⟨rfl, _, rfl, rfl⟩))) rfl rfl rfl
              · cases h
            · rename_i kf hfs
              split at h
              · obtain ⟨h1, h2⟩ := bif_at h
                cases h2; exact key _ k ci 4 kf _ fs rfl hsh hca hfs (Or.inr (Or.inr (Or.inr ⟨rfl, _, of_decide_eq_true h1, rfl, rfl⟩))) rfl rfl rfl
              · cases h
            · cases h
        · cases h
      · cases h
    | iaload =>
      dsimp only at h hk hd; obtain rfl := len1 hk
      split at h
      · rename_i i k r
        split at h
        · rename_i n fs hsh
          obtain ⟨h1, h2⟩ := bif_at h
          cases h2
          obtain ⟨q0, hq0, -⟩ := ws_at sh pos cT ad (σ := σ) (hy.1 k _ hsh (Nat.le_of_ble_eq_true rfl))
          rw [cel_1 hsh] at hq0
          exact va_iald (D := D) hx hb hK hP q0 0 hq0 (hy_ty hy.2.2.2.2.1 rfl) (ib_in h1) hd (kk H locs ls hW hS hl)
        · rename_i q1 q2 hsh
          obtain ⟨h1, h2⟩ := bif_at h
          cases h2
          obtain ⟨g1, g2⟩ := hy.2.2.2.2.2.2.2.1 k _ hsh
          have hX := g2 s hXT
          obtain ⟨scr, x1, x2⟩ := hX
          have hX' : va_X (ad k) sc.1 sc.2.1 s s.heap := ⟨scr, by rw [hlo.2 _ g1]; exact x1, x2⟩
          exact va_sld hx hb hX' (Nat.lt_of_lt_of_le g1 hlo.1) (Nat.not_le.mpr g1) hS (ib_in h1) hd (kk H locs ls hW hS hl)
        · cases h
      · cases h
    | baload =>
      dsimp only at h hk hd; obtain rfl := len1 hk
      split at h
      · rename_i i k r
        split at h
        · rename_i n fs hsh
          obtain ⟨h1, h2⟩ := bif_at h
          cases h2
          obtain ⟨q0, hq0, -⟩ := ws_at sh pos cT ad (σ := σ) (hy.1 k _ hsh (Nat.le_of_ble_eq_true rfl))
          rw [cel_2 hsh] at hq0
          exact va_zald (D := D) hx hb hK hP q0 1 hq0 (hy_ty hy.2.2.2.2.1 rfl) (ib_in h1) hd (kk H locs ls hW hS hl)
        · cases h
      · cases h
    | laload =>
      dsimp only at h hk hd; obtain rfl := len1 hk
      split at h
      · rename_i i k r
        split at h
        · rename_i n fs hsh
          obtain ⟨h1, h2⟩ := bif_at h
          cases h2
          obtain ⟨q0, hq0, -⟩ := ws_at sh pos cT ad (σ := σ) (hy.1 k _ hsh (Nat.le_of_ble_eq_true rfl))
          rw [cel_3 hsh] at hq0
          exact va_lald (D := D) hx hb hK hP q0 2 hq0 (hy_ty hy.2.2.2.2.1 rfl) (ib_in h1) hd (kk H locs ls hW hS hl)
        · cases h
      · cases h
    | aaload =>
      dsimp only at h hk hd; obtain rfl := len1 hk
      split at h
      · rename_i i k r
        split at h
        · rename_i n fs hsh
          obtain ⟨h1, h2⟩ := bif_at h
          cases h2
          obtain ⟨q0, hq0, -⟩ := ws_at sh pos cT ad (σ := σ) (hy.1 k _ hsh (Nat.le_of_ble_eq_true rfl))
          rw [cel_4 hsh] at hq0
          have hin := ib_in h1
          have hlt : i.toNatClampNeg < n := Nat.not_le.mp fun q => hin (Or.inr q)
          exact W.aald (v := .ref (ad ((fs.map Prod.fst).getD 0 0 + i.toNatClampNeg))) (ty := .array .int) hx hb (hP q0 _ hq0) ((hK.2 3 _ (hy_ty hy.2.2.2.2.1 rfl)).1 n (fun j => va_rf (some (ad ((fs.map Prod.fst).getD 0 0 + j))))) rfl (fun q => by cases q) (by show ¬ (i < 0 ∨ (arrV _ _ _).slots.size ≤ _); rw [arrV_size]; exact hin) (by show (arrV _ _ _).slots[_]? = _; rw [arrV_read _ _ hlt]; rfl) rfl rfl hd (kk H locs ls hW hS hl)
        · rename_i n fs hsh
          obtain ⟨h1, h2⟩ := bif_at h
          cases h2
          obtain ⟨q0, hq0, -⟩ := ws_at sh pos cT ad (σ := σ) (hy.1 k _ hsh (Nat.le_of_ble_eq_true rfl))
          rw [cel_5 hsh] at hq0
          exact va_aldq (D := D) (C := "java/lang/String") hx hb hK hP q0 4 hq0 (hy_ty hy.2.2.2.2.1 rfl) (ib_in h1) hd (kk H locs ls hW hS hl)
        · cases h
      · cases h
    | iastore =>
      dsimp only at h hk hd; obtain rfl := len1 hk
      split at h
      · rename_i x i k r
        split at h
        · rename_i n fs hsh
          obtain ⟨h1, h2⟩ := bif_at h
          cases h2
          obtain ⟨q0, hq0, hpq⟩ := ws_at sh pos cT ad (σ := σ) (hy.1 k _ hsh (Nat.le_of_ble_eq_true rfl))
          rw [cel_1 hsh] at hq0
          refine va_iast (D := D) (A := AX Hb) (H0 := s.heap) hx hb hK hP hD hS q0 0 hq0 (hy_ty hy.2.2.2.2.1 rfl) (ib_in h1) hd (fun H1 locs1 hP1 hD1 hS1 => ?_)
          rw [ws_set (cT := cT) (ad := ad) hy.2.1 hpq (by rw [cel_1 hsh, ai_p3, if_pos rfl]) ui_cel] at hP1
          obtain ⟨z1, z2⟩ := lowS (A := AX Hb) hlo hS1
          exact kk H1 locs1 ls ⟨hP1, hK, z1, z2, hXT⟩ hS1 hl
        · cases h
      · cases h
    | bastore =>
      dsimp only at h hk hd; obtain rfl := len1 hk
      split at h
      · rename_i x i k r
        split at h
        · rename_i n fs hsh
          obtain ⟨h1, h2⟩ := bif_at h
          cases h2
          obtain ⟨q0, hq0, hpq⟩ := ws_at sh pos cT ad (σ := σ) (hy.1 k _ hsh (Nat.le_of_ble_eq_true rfl))
          rw [cel_2 hsh] at hq0
          refine va_zast (D := D) (A := AX Hb) (H0 := s.heap) hx hb hK hP hD hS q0 1 hq0 (hy_ty hy.2.2.2.2.1 rfl) (ib_in h1) hd (fun H1 locs1 hP1 hD1 hS1 => ?_)
          rw [ws_set (cT := cT) (ad := ad) hy.2.1 hpq (by rw [cel_2 hsh, ai_p3, if_pos rfl]) ui_cel] at hP1
          obtain ⟨z1, z2⟩ := lowS (A := AX Hb) hlo hS1
          exact kk H1 locs1 ls ⟨hP1, hK, z1, z2, hXT⟩ hS1 hl
        · cases h
      · cases h
    | lastore =>
      dsimp only at h hk hd; obtain rfl := len1 hk
      split at h
      · rename_i x i k r
        split at h
        · rename_i n fs hsh
          obtain ⟨h1, h2⟩ := bif_at h
          cases h2
          obtain ⟨q0, hq0, hpq⟩ := ws_at sh pos cT ad (σ := σ) (hy.1 k _ hsh (Nat.le_of_ble_eq_true rfl))
          rw [cel_3 hsh] at hq0
          refine va_last (D := D) (A := AX Hb) (H0 := s.heap) hx hb hK hP hD hS q0 2 hq0 (hy_ty hy.2.2.2.2.1 rfl) (ib_in h1) hd (fun H1 locs1 hP1 hD1 hS1 => ?_)
          rw [ws_set (cT := cT) (ad := ad) hy.2.1 hpq (by rw [cel_3 hsh, al_p3, if_pos rfl]) ul_cel] at hP1
          obtain ⟨z1, z2⟩ := lowS (A := AX Hb) hlo hS1
          exact kk H1 locs1 ls ⟨hP1, hK, z1, z2, hXT⟩ hS1 hl
        · cases h
      · cases h
    | arraylength =>
      dsimp only at h hk hd; obtain rfl := len1 hk
      split at h
      · rename_i k r
        split at h
        · rename_i n fs hsh
          cases h
          obtain ⟨q0, hq0, -⟩ := ws_at sh pos cT ad (σ := σ) (hy.1 k _ hsh (Nat.le_of_ble_eq_true rfl))
          rw [cel_1 hsh] at hq0
          exact va_alen (D := D) hx hb hK hP q0 0 hq0 (hy_ty hy.2.2.2.2.1 rfl) rfl hd (kk H locs ls hW hS hl)
        · rename_i n fs hsh
          cases h
          obtain ⟨q0, hq0, -⟩ := ws_at sh pos cT ad (σ := σ) (hy.1 k _ hsh (Nat.le_of_ble_eq_true rfl))
          rw [cel_2 hsh] at hq0
          exact va_alen (D := D) hx hb hK hP q0 1 hq0 (hy_ty hy.2.2.2.2.1 rfl) rfl hd (kk H locs ls hW hS hl)
        · rename_i n fs hsh
          cases h
          obtain ⟨q0, hq0, -⟩ := ws_at sh pos cT ad (σ := σ) (hy.1 k _ hsh (Nat.le_of_ble_eq_true rfl))
          rw [cel_3 hsh] at hq0
          exact va_alen (D := D) hx hb hK hP q0 2 hq0 (hy_ty hy.2.2.2.2.1 rfl) rfl hd (kk H locs ls hW hS hl)
        · rename_i n fs hsh
          cases h
          obtain ⟨q0, hq0, -⟩ := ws_at sh pos cT ad (σ := σ) (hy.1 k _ hsh (Nat.le_of_ble_eq_true rfl))
          rw [cel_4 hsh] at hq0
          exact va_alen (D := D) hx hb hK hP q0 3 hq0 (hy_ty hy.2.2.2.2.1 rfl) rfl hd (kk H locs ls hW hS hl)
        · rename_i n fs hsh
          cases h
          obtain ⟨q0, hq0, -⟩ := ws_at sh pos cT ad (σ := σ) (hy.1 k _ hsh (Nat.le_of_ble_eq_true rfl))
          rw [cel_5 hsh] at hq0
          exact va_alen (D := D) hx hb hK hP q0 4 hq0 (hy_ty hy.2.2.2.2.1 rfl) rfl hd (kk H locs ls hW hS hl)
        · rename_i q1 q2 hsh
          cases h
          obtain ⟨g1, g2⟩ := hy.2.2.2.2.2.2.2.1 k _ hsh
          obtain ⟨scr, x1, x2⟩ := g2 s hXT
          have hX' : va_X (ad k) sc.1 sc.2.1 s s.heap := ⟨scr, by rw [hlo.2 _ g1]; exact x1, x2⟩
          exact va_slen hx hb hX' (Nat.lt_of_lt_of_le g1 hlo.1) (Nat.not_le.mpr g1) hS hd (kk H locs ls hW hS hl)
        · cases h
      · cases h
    | _ => dsimp only at h; cases h
end IStep
