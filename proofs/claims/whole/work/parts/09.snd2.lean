section Snd2
variable {sh : Shp} {sc : Sct} {M : List MI} {big nsl : List Cond} {sts : List (String × Nat × String × Nat)} {cl : List vw_C} {pos : List Nat} {D : va_G} {cT : List (ClassId × FieldType)} {ad : Nat → Nat} {Hb : Heap} {XT : State → Prop} {l : Launch}
variable {p : Program} {e : Env} {R : Room} {s : State} {m : MethodId} {args : Array Value} {below : List Frame} {meth : Method} {c : Code} {H : Heap} {locs : List Loc} {cells slots : Nat} {ls : Array Slot} {Q : State → Prop}
theorem wh_S {A1 : Nat → Prop} {st₀ t T' : State} {L : List Loc} (h0 : st₀.heap = H) (e1 : T'.heap = t.heap) (hS : va_S (AX Hb) s.heap H locs) (hL : ∀ q ∈ L, AX Hb q.base) (hF : va_F (AX Hb) st₀ t) : va_S (AX Hb) s.heap T'.heap (locs ++ L) := by
  obtain ⟨hz, hk⟩ := hF
  rw [h0] at hz hk
  refine ⟨Nat.le_trans hS.1 (by rw [e1]; exact hz), fun q h1 h2 => by rw [e1, hk q (Nat.lt_of_lt_of_le h1 hS.1) h2]; exact hS.2.1 q h1 h2, fun q hq => ?_⟩
  rcases List.mem_append.mp hq with h | h
  · exact hS.2.2 q h
  · exact hL q h
theorem call_go {k pc : Nat} {σ σ1 : St3} {v : Option Value} {a : Array Value} {st0 rest : List Value} (hr : va_Run p l e R s m args below meth c H locs cells slots k (6 * k) (F0 m pc ls st0) rest (Qcw sh cl pos D cT ad Hb σ1 v a) (AX Hb))
    (hW : WD sh pos D cl cT ad Hb XT σ s H) (hS : va_S (AX Hb) s.heap H locs)
    (kk : ∀ (H1 : Heap) (locs1 : List Loc), WD sh pos D cl cT ad Hb XT σ1 s H1 → va_S (AX Hb) s.heap H1 locs1 → W p l e R s m args below meth c H1 locs1 (cells + k) (slots + 6 * k) Q (F0 m (pc + 3) ls ((v.map (cv ad)).toList ++ rest))) : W p l e R s m args below meth c H locs cells slots Q (F0 m pc ls st0) := by
  intro T hT X
  obtain ⟨v', st₀, t, T', L, h0, X', hL, e1, e2, ⟨hv, hWH, hF⟩, st⟩ := hr T hT X
  cases hv
  obtain ⟨t2, a1, b1⟩ := kk T'.heap (locs ++ L) ⟨by rw [e1]; exact hWH.1, hW.2.1, by rw [e1]; exact hWH.2.1, by rw [e1]; exact hWH.2.2, hW.2.2.2.2⟩ (wh_S (A1 := AX Hb) h0 e1 hS hL hF) T' rfl X'
  exact ⟨t2, st t2 a1, b1⟩
theorem callX_go {k pc : Nat} {σ σ1 : St3} {r : Res} {xn : Nat → String} {a : Array Value} {st0 rest : List Value} (hr : vx_Run p l e R s m args below meth c H locs cells slots k (6 * k) (F0 m pc ls st0) rest (fun st o t => ∃ v, r = .inl v ∧ Qcw sh cl pos D cT ad Hb σ1 v a st o t) (fun E st t => ∃ x, r = .inr x ∧ Xcw sh cl pos D cT ad Hb σ1 x xn E st t) (AX Hb))
    (hW : WD sh pos D cl cT ad Hb XT σ s H) (hS : va_S (AX Hb) s.heap H locs)
    (kv : ∀ (v : Option Value) (H1 : Heap) (locs1 : List Loc), r = .inl v → WD sh pos D cl cT ad Hb XT σ1 s H1 → va_S (AX Hb) s.heap H1 locs1 → W p l e R s m args below meth c H1 locs1 (cells + k) (slots + 6 * k) Q (F0 m (pc + 3) ls ((v.map (cv ad)).toList ++ rest)))
    (kx : ∀ (x : Nat) (H1 : Heap) (locs1 : List Loc) (q : Addr) (ce : Cell), r = .inr x → H1[q]? = some ce → ce.vm = .none → s.vm.findClass (xn x) = some ce.cls → WD sh pos D cl cT ad Hb XT σ1 s H1 → va_S (AX Hb) s.heap H1 locs1 → vx_W p l e R s m args below meth c H1 locs1 (cells + k) (slots + 6 * k) Q (F0 m pc ls rest) q) : W p l e R s m args below meth c H locs cells slots Q (F0 m pc ls st0) := by
  intro T hT X
  rcases hr T hT X with ⟨v', st₀, t, T', L, h0, X', hL, e1, e2, ⟨v, hrv, hv, hWH, hF⟩, st⟩ | ⟨q, st₀, t, T', L, E, ce, h0, X', hL, e1, e2, ⟨x, hrx, rfl, hWH, hF⟩, hce, hcv, hcl, st⟩
  · cases hv
    obtain ⟨t2, a1, b1⟩ := kv v T'.heap (locs ++ L) hrv ⟨by rw [e1]; exact hWH.1, hW.2.1, by rw [e1]; exact hWH.2.1, by rw [e1]; exact hWH.2.2, hW.2.2.2.2⟩ (wh_S (A1 := AX Hb) h0 e1 hS hL hF) T' rfl X'
    exact ⟨t2, st t2 a1, b1⟩
  · obtain ⟨t2, a1, b1⟩ := kx x T'.heap (locs ++ L) q ce hrx (by rw [e1]; exact hce) hcv hcl ⟨by rw [e1]; exact hWH.1, hW.2.1, by rw [e1]; exact hWH.2.1, by rw [e1]; exact hWH.2.2, hW.2.2.2.2⟩ (wh_S (A1 := AX Hb) h0 e1 hS hL hF) T' rfl X'
    exact ⟨t2, st.trans a1, b1⟩
theorem LH_x {ad : Nat → Nat} {ls : Array Slot} {nL : Nat} {L : Lo} (hL : L.length = nL) {i : Nat} {w : Value} (h : lv_has ls nL ((i, w) :: (alo ad L).filter (fun q => !(q.1 == i) && !(q.1 + 1 == i && q.2.category == 2)))) : LH ad ls nL ((kil i L).set i none) := by
  refine ⟨by rw [List.length_set, kil_len, hL], h.mono fun q hq => ?_⟩
  obtain ⟨j, w⟩ := q
  obtain ⟨x, hx, rfl⟩ := mem_alo.mp hq
  by_cases e : i = j
  · subst e
    rw [List.getElem?_set] at hx
    simp at hx
  · rw [List.getElem?_set_ne e] at hx
    obtain ⟨h1, h2⟩ := kil_at hx
    refine List.mem_cons_of_mem _ (List.mem_filter.mpr ⟨mem_alo.mpr ⟨x, h1, rfl⟩, ?_⟩)
    simp only [Bool.and_eq_true, Bool.not_eq_true', beq_eq_false_iff_ne, Bool.and_eq_false_iff, cv_cat]
    refine ⟨fun q => e q.symm, ?_⟩
    by_cases q : j + 1 = i
    · exact Or.inr (h2 q)
    · exact Or.inl q
/-- what a handler needs -/
def HDL (M : List MI) (big : List Cond) (XT : State → Prop) (xn : Nat → String) : Prop := ∀ (mi : MI), mi ∈ M → ∀ (pc x pc' i : Nat), mi.hnd pc x = some (pc', i) → mi.hh ≠ [] ∧ i < mi.maxL ∧
  ∀ (s : State) (args : Array Value) (c : Code), XT s → (∀ w ∈ big.filter goodWord, w.before args s = true) → c.exceptionTable.toList = tableOf mi.hh →
    ∃ (pre : List ExceptionTableEntry) (xe : ExceptionTableEntry) (suf : List ExceptionTableEntry), c.exceptionTable.toList = pre ++ xe :: suf ∧ (∀ z ∈ pre, covers z pc = false ∨ (z.catchType ≠ 0 ∧ ∃ nm : String, (Cond.classLink mi.y.cls z.catchType nm).before args s = true ∧ va_Nc (xn x) nm s)) ∧ covers xe pc = true ∧ xe.catchType ≠ 0 ∧
      (Cond.classLink mi.y.cls xe.catchType (xn x)).before args s = true ∧ (Cond.castable (xn x) (xn x)).before args s = true ∧
      ((decode mi.bytes xe.handlerPc = .ok (.astore i, 2) ∧ pc' = xe.handlerPc + 2) ∨ (∃ k : Fin 4, k.val = i ∧ decode mi.bytes xe.handlerPc = .ok (.astore_n k, 1) ∧ pc' = xe.handlerPc + 1))
/-- what String's length and charAt do with a constant -/
def BLT (sh : Shp) (sc : Sct) (big : List Cond) (cl : List vw_C) (pos : List Nat) (D : va_G) (cT : List (ClassId × FieldType)) (ad : Nat → Nat) (Hb : Heap) (XT : State → Prop) (l : Launch) : Prop := ∀ (kind : Nat) (as : List Value) (v : Value), kind = 7 ∨ kind = 8 → ibuilt sh sc kind as = some v → ∀ σ : St3, ∃ (y : MethodName) (bytes : ByteArray) (maxL : Nat) (ret : Option FieldType) (a : Nat) (as' : List Value),
  ((kind = 7 ∧ y = ⟨"java/lang/String", "length", "()I"⟩) ∨ (kind = 8 ∧ y = ⟨"java/lang/String", "charAt", "(I)C"⟩)) ∧ maxL ≤ 44 ∧ as = .ref a :: as' ∧ (parseMethodDescriptor y.desc).map (fun d => d.parameters.length) = some as'.length ∧
  Met l y (Cond.code y bytes maxL ret :: big.filter goodWord) (rmD 4 0) (Pcw sh cl pos D cT ad Hb XT σ as) (Qcw sh cl pos D cT ad Hb σ (some v)) 0 0 (AX Hb) ∧
  Cond.code y bytes maxL ret ∈ big.filter goodWord ∧ Cond.instanceMethod y ∈ big.filter goodWord ∧ Cond.selects y.cls y y ∈ big.filter goodWord ∧ Cond.initialized y.cls ∈ big.filter goodWord ∧
  ∀ (s : State) (H : Heap), WD sh pos D cl cT ad Hb XT σ s H → ∃ cell : Cell, H[ad a]? = some cell ∧ cell.vm.isStatics = false ∧ s.vm.findClass y.cls = some cell.cls
/-- Math's own words -/
def MTH (big : List Cond) : Prop := Cond.initialized "java/lang/Math" ∈ big.filter goodWord ∧ (Cond.static Lib.Math.max.name ∈ big.filter goodWord ∧ Cond.code Lib.Math.max.name Lib.Math.max.code 2 (some .int) ∈ big.filter goodWord) ∧ (Cond.static Lib.Math.min.name ∈ big.filter goodWord ∧ Cond.code Lib.Math.min.name Lib.Math.min.code 2 (some .int) ∈ big.filter goodWord) ∧
  (Cond.static Lib.MathLoose.max_long.x ∈ big.filter goodWord ∧ Cond.code Lib.MathLoose.max_long.x Lib.MathLoose.max_long.code 4 (some .long) ∈ big.filter goodWord) ∧ (Cond.static Lib.MathLoose.min_long.x ∈ big.filter goodWord ∧ Cond.code Lib.MathLoose.min_long.x Lib.MathLoose.min_long.code 4 (some .long) ∈ big.filter goodWord)
theorem map_rev (ad : Nat → Nat) (as rest : List Value) : (as.reverse ++ rest).map (cv ad) = (as.map (cv ad)).reverse ++ rest.map (cv ad) := by simp
theorem cat_sum (ad : Nat → Nat) (rest : List Value) : ((rest.map (cv ad)).map fun v => v.category).sum = (rest.map Value.category).sum := by
  rw [List.map_map]
  congr 1
  apply List.map_congr_left
  intro v _
  exact cv_cat ad v
theorem chkY_at {my : MI} (h : chkY big cl my = true) (hw : CW big my) : (my.y.cls ≠ "java/lang/invoke/MethodHandle" ∧ my.y.cls ≠ "java/lang/invoke/VarHandle" ∧ (parseMethodDescriptor my.y.desc).map (fun d => d.parameters.length) = some my.npar) ∧ plainName my.y.cls = true ∧ my.maxL ≤ 44 ∧ Cond.initialized my.y.cls ∈ big.filter goodWord ∧
    (my.flag = 0 → Cond.code my.y my.bytes my.maxL my.ret ∈ big.filter goodWord ∧ Cond.static my.y ∈ big.filter goodWord ∧ my.hh = []) ∧
    (my.flag = 1 → Cond.code my.y my.bytes my.maxL my.ret ∈ big.filter goodWord ∧ Cond.instanceMethod my.y ∈ big.filter goodWord ∧ Cond.selects my.y.cls my.y my.y ∈ big.filter goodWord ∧ my.hh = [] ∧ ∃ q, cl[my.ply.getD 4 0]? = some q ∧ q.1 = my.y.cls) ∧
    (my.flag = 2 → Cond.codeWith my.y my.bytes my.maxL my.ret my.hh ∈ big.filter goodWord ∧ Cond.static my.y ∈ big.filter goodWord) := by
  unfold chkY at h
  simp only [Bool.and_eq_true, decide_eq_true_eq] at h
  obtain ⟨⟨⟨⟨⟨h1, h2⟩, h3⟩, h4⟩, h5⟩, h6⟩ := h
  refine ⟨⟨h1.1, h1.2, h2⟩, h3, Nat.le_of_ble_eq_true h4, wd_in h5, fun hf => ?_, fun hf => ?_, fun hf => ?_⟩
  · rw [hf] at h6
    simp only [Bool.and_eq_true, decide_eq_true_eq] at h6
    exact ⟨hw.1 (Or.inl hf), wd_in h6.1, h6.2⟩
  · rw [hf] at h6
    simp only [Bool.and_eq_true, decide_eq_true_eq] at h6
    refine ⟨hw.1 (Or.inr hf), wd_in h6.1.1.1, wd_in h6.1.1.2, h6.1.2, ?_⟩
    have h7 := h6.2
    cases hc : cl[my.ply.getD 4 0]? with
    | none => rw [hc] at h7; cases h7
    | some q => rw [hc] at h7; exact ⟨q, rfl, of_decide_eq_true h7⟩
  · rw [hf] at h6
    exact ⟨hw.2 hf, wd_in h6⟩
set_option maxHeartbeats 4000000 in
theorem SND {xn : Nat → String} (hy : HY sh sc pos cl cT ad Hb XT) (hcks : ∀ mi ∈ M, chkM M big nsl sts cl mi = true) (hcws : ∀ mi ∈ M, CW big mi) (hcy : CY big cl) (hty : TY sts ad XT) (hXw : ∀ s U : State, s.WarmedH U.vm → XT s → XT U)
    (hns : ∀ (i : Nat) (own : String) (idx : Nat) (y : MethodName) (host : String), nsl[i]? = some (.methodLinkNest own idx y host) → ∀ s, XT s → va_Nw (.methodLinkNest own idx y host) s)
    (hthr : THR M big Hb XT l xn) (hhdl : HDL M big XT xn) (hblt : BLT sh sc big cl pos D cT ad Hb XT l) (hmth : MTH big) : ∀ n, BODY sh sc M big cl pos D cT ad Hb XT l n := by
  intro n
  induction n with
  | zero => intro d mi pc L st σ σ' r k h; cases h
  | succ n ih =>
    intro d mi pc L st σ σ' r k h hM p e R s m args below meth c hx hb hml hown hts hlo htab hdf hdl H locs cells slots ls Q hck1 hsl1 hW hS hl fin
    have hck := hcks mi hM
    unfold exec at h
    cases hi : istep sh sc mi pc L st σ with
    | some q =>
      rw [hi] at h
      obtain ⟨pc', L', st', σ1⟩ := q
      dsimp only at h
      exact istepS (l := l) (R := R) hy hck hcy hty hx hb hown hts hlo hi hW hS hl (fun H1 locs1 ls1 hW1 hS1 hl1 => ih d mi pc' L' st' σ1 σ' r k h hM p e R s m args below meth c hx hb hml hown hts hlo htab hdf hdl H1 locs1 cells slots ls1 Q hck1 hsl1 hW1 hS1 hl1 fin)
    | none =>
      rw [hi] at h
      dsimp only at h
      cases hf : ifin mi pc st with
      | some r0 =>
        rw [hf] at h
        cases r0 with
        | inl v =>
          dsimp only at h
          cases h
          exact fin pc st H locs cells slots ls hf (fun q => by cases q) hW hS hl.2.1 rfl rfl
        | inr x =>
          dsimp only at h
          obtain ⟨h1, h2⟩ := bif_at h
          cases h2
          exact fin pc st H locs cells slots ls hf (fun _ => Nat.le_of_ble_eq_true h1) hW hS hl.2.1 rfl rfl
      | none =>
        rw [hf] at h
        dsimp only at h
        cases hc : icall mi pc st with
        | none => rw [hc] at h; cases h
        | some q =>
          rw [hc] at h
          obtain ⟨kind, y, as, rest⟩ := q
          dsimp only at h
          cases d with
          | zero => cases h
          | succ d' =>
            dsimp only at h
            obtain ⟨ins, len, b, hcode, hst, hsum, hins⟩ := icall_at hc
            subst hst
            have hke := chk_at M big nsl sts cl hck hcode
            unfold chkE at hke
            rw [Bool.and_eq_true] at hke
            obtain ⟨hd0, hke⟩ := hke
            have hdec := of_decide_eq_true hd0
            have hfix : CallFix p m c mi.bytes mi.maxL s args (big.filter goodWord) mi.y.cls := ⟨hx, hb, hml, hown, hts⟩
            have hroom : 2 * (F0 m pc ls ((as.reverse ++ rest).map (cv ad))).monitorRoom + ((rest.map (cv ad)).map fun v => v.category).sum ≤ 8 := lv_room (by rw [cat_sum]; exact hsum)
            have hlsz : (F0 m pc ls ((as.reverse ++ rest).map (cv ad))).locals.size = mi.maxL := hl.2.1
            have hdisj : ibuilt sh sc kind as = none ∨ ∃ v, ibuilt sh sc kind as = some v := by
              cases ibuilt sh sc kind as with
              | none => exact Or.inl rfl
              | some v => exact Or.inr ⟨v, rfl⟩
            rcases hdisj with hbn | ⟨v, hbv⟩
            · rw [hbn] at h
              dsimp only at h
              cases hmy : M[y]? with
              | none => rw [hmy] at h; cases h
              | some my =>
                rw [hmy] at h
                dsimp only at h
                have hMy : my ∈ M := List.mem_of_getElem? hmy
                have hckm := hcks my hMy
                have hyy := hckm
                unfold chkM at hyy
                rw [Bool.and_eq_true] at hyy
                obtain ⟨hyd, hypl, hymax, hyini, hy0, hy1, hy2⟩ := chkY_at hyy.1 (hcws my hMy)
                cases hcond : (Nat.ble (entL as).length my.maxL && (rcvOk sh my as && Nat.ble kind 4)) with
                | false => rw [hcond] at h; cases h
                | true =>
                  rw [hcond] at h
                  dsimp only [cond_true] at h
                  simp only [Bool.and_eq_true] at hcond
                  obtain ⟨hlen0, hrcv, hk4⟩ := hcond
                  have hlen := Nat.le_of_ble_eq_true hlen0
                  have hk4 := Nat.le_of_ble_eq_true hk4
                  -- what the callee does
                  cases hex : exec sh sc M n d' my 0 (ent my.maxL as) [] σ with
                  | none => rw [hex] at h; cases h
                  | some q1 =>
                    rw [hex] at h
                    obtain ⟨r1, σ1, k1⟩ := q1
                    have hR1 : (rmD d' k1).frames + 1 ≤ R.frames ∧ 8 + (my.maxL + 11) + (rmD d' k1).locals ≤ R.locals := ⟨hdf, by show 8 + (my.maxL + 11) + 64 * d' ≤ R.locals; omega⟩
                    have hpre : ∀ U : State, U.heap = H → s.WarmedH U.vm → Pcw sh cl pos D cT ad Hb XT σ as (as.map (cv ad)).toArray U := fun U hU hWm => ⟨rfl, by rw [hU]; exact WD_mv hXw hWm hW⟩
                    -- what is left when it returns
                    have hret : ∀ v, r1 = .inl v → ∃ k2, k = k1 + k2 ∧ exec sh sc M n (d' + 1) mi (pc + 3) L (v.toList ++ rest) σ1 = some (r, σ', k2) := by
                      intro v hv
                      subst hv
                      dsimp only at h
                      cases hex2 : exec sh sc M n (d' + 1) mi (pc + 3) L (v.toList ++ rest) σ1 with
                      | none => rw [hex2] at h; cases h
                      | some q2 =>
                        rw [hex2] at h
                        obtain ⟨r2, σ2, k2⟩ := q2
                        cases h
                        exact ⟨k2, rfl, rfl⟩
                    have hthen : ∀ v, r1 = .inl v → ∀ (H1 : Heap) (locs1 : List Loc), WD sh pos D cl cT ad Hb XT σ1 s H1 → va_S (AX Hb) s.heap H1 locs1 → W p l e R s m args below meth c H1 locs1 (cells + k1) (slots + 6 * k1) Q (F0 m (pc + 3) ls ((v.map (cv ad)).toList ++ rest.map (cv ad))) := by
                      intro v hv H1 locs1 hW1 hS1
                      obtain ⟨k2, rfl, hex2⟩ := hret v hv
                      have := ih (d' + 1) mi (pc + 3) L (v.toList ++ rest) σ1 σ' r k2 hex2 hM p e R s m args below meth c hx hb hml hown hts hlo htab hdf hdl H1 locs1 (cells + k1) (slots + 6 * k1) ls Q (by omega) (by omega) hW1 hS1 hl (fun pc' st' H2 locs2 cells2 slots2 ls2 g1 g2 g3 g4 g5 g6 g7 => fin pc' st' H2 locs2 cells2 slots2 ls2 g1 g2 g3 g4 g5 (by omega) (by omega))
                      have e9 : (v.toList ++ rest).map (cv ad) = (v.map (cv ad)).toList ++ rest.map (cv ad) := by cases v <;> rfl
                      rw [e9] at this
                      exact this
                    have hkle : ∀ v, r1 = .inl v → cells + k1 ≤ R.cells ∧ slots + 6 * k1 ≤ R.slots := by
                      intro v hv
                      obtain ⟨k2, rfl, -⟩ := hret v hv
                      exact ⟨by omega, by omega⟩
                    rcases hins with ⟨idx, rfl, hasl⟩ | ⟨idx, rfl, hasl⟩
                    · -- static
                      dsimp only at hke hdec
                      rw [Bool.and_eq_true] at hke
                      obtain rfl := len3 hke.1
                      have hcal := hke.2
                      match kind, hk4, hcal, hbn, h with
                      | 0, _, hcal, _, h =>
                        unfold calOk at hcal
                        rw [hmy] at hcal
                        simp only [Bool.and_eq_true] at hcal
                        obtain ⟨⟨hfl, hnp⟩, hlk⟩ := hcal
                        obtain ⟨hcw, hsw, hhh⟩ := hy0 (Nat.eq_of_beq_eq_true hfl)
                        have hbnp := Nat.eq_of_beq_eq_true hnp
                        cases r1 with
                        | inr x => dsimp only at h; cases h
                        | inl v =>
                          have hMet := met_of ih hMy hckm hlen hhh hypl hex
                          refine call_go (va_runS (y := my.y) (rest := rest.map (cv ad)) (As := as.map (cv ad)) (n := my.npar) hfix hMet ⟨callB_of my.npar hts (good_tb hcw) rfl rfl rfl (hts _ hyini) (hts _ (wd_in hlk)) hyd hR1, hts _ hsw⟩ ⟨Pcw_blind hXw, hpre⟩ rfl (by rw [List.length_map, hasl, hbnp]) hlsz (map_rev ad as rest) hroom hdec (hkle v rfl)) hW hS (hthen v rfl)
                      | 1, _, hcal, _, h =>
                        unfold calOk at hcal
                        rw [hmy] at hcal
                        simp only [Bool.and_eq_true, decide_eq_true_eq] at hcal
                        obtain ⟨⟨hfl, hnp⟩, hlk⟩ := hcal
                        obtain ⟨hcw, hsw, hhh⟩ := hy0 (Nat.eq_of_beq_eq_true hfl)
                        have hbnp := Nat.eq_of_beq_eq_true hnp
                        cases r1 with
                        | inr x => dsimp only at h; cases h
                        | inl v =>
                          have hMet := met_of ih hMy hckm hlen hhh hypl hex
                          refine call_go (va_runSN (y := my.y) (rest := rest.map (cv ad)) (As := as.map (cv ad)) (n := my.npar) hfix hMet ⟨va_cnB my.npar hts (good_tb hcw) rfl rfl rfl (hns _ _ _ _ _ hlk s hW.2.2.2.2) (hts _ hyini) hyd hR1, hts _ hsw, trivial⟩ ⟨Pcw_blind hXw, hpre⟩ rfl (by rw [List.length_map, hasl, hbnp]) hlsz (map_rev ad as rest) hroom hdec (hkle v rfl)) hW hS (hthen v rfl)
                      | 2, _, hcal, _, h => cases hcal
                      | 3, _, hcal, _, h => cases hcal
                      | 4, _, hcal, _, h =>
                        unfold calOk at hcal
                        rw [hmy] at hcal
                        simp only [Bool.and_eq_true] at hcal
                        obtain ⟨⟨hfl, hnp⟩, hlk⟩ := hcal
                        obtain ⟨hcw, hsw⟩ := hy2 (Nat.eq_of_beq_eq_true hfl)
                        have hbnp := Nat.eq_of_beq_eq_true hnp
                        cases r1 with
                        | inr x => dsimp only at h; cases h
                        | inl v =>
                          have hMet := met_ofW ih hMy hckm hlen hypl hex
                          refine call_go (vx_runSW (y := my.y) (rest := rest.map (cv ad)) (As := as.map (cv ad)) (n := my.npar) hfix hMet ⟨⟨rfl, rfl, hR1.1, hR1.2, pay_in hts (good_tb hcw), List.mem_cons_self⟩, hts _ hcw, hts _ hyini, ⟨hyd.1, hyd.2.1⟩, fun sig hsig => by have h2 := hyd.2.2; rw [hsig] at h2; exact (Option.some.inj h2).symm, hts _ (wd_in hlk), hts _ hsw⟩ ⟨Pcw_blind hXw, hpre⟩ rfl (by rw [List.length_map, hasl, hbnp]) hlsz (map_rev ad as rest) hroom hdec (hkle v rfl)) hW hS (hthen v rfl)
                    · -- of an object
                      dsimp only at hke hdec
                      rw [Bool.and_eq_true] at hke
                      obtain rfl := len3 hke.1
                      have hcal := hke.2
                      have hobj : my.flag = 1 → ∃ (a : Nat) (as' : List Value), as = .ref a :: as' ∧ ∃ cell : Cell, H[ad a]? = some cell ∧ cell.vm.isStatics = false ∧ s.vm.findClass my.y.cls = some cell.cls := by
                        intro hfl
                        obtain ⟨-, -, -, -, q, hq1, hq2⟩ := hy1 hfl
                        unfold rcvOk at hrcv
                        rw [hfl] at hrcv
                        dsimp only [Nat.beq, cond_true] at hrcv
                        split at hrcv
                        · rename_i a as'
                          split at hrcv
                          · rename_i ci fs hsh
                            obtain rfl := Nat.eq_of_beq_eq_true hrcv
                            obtain ⟨q0, hq0, -⟩ := ws_at sh pos cT ad (σ := σ) (hy.1 a _ hsh (Nat.zero_le _))
                            rw [cel_0 hsh] at hq0
                            obtain ⟨cell, g1, g2, g3⟩ := va_recv hW.2.1 hW.1 hq1 hq0
                            exact ⟨a, as', rfl, cell, g1, g2, by rw [← hq2]; exact g3⟩
                          · cases hrcv
                        · cases hrcv
                      match kind, hk4, hcal, hbn, h with
                      | 0, _, hcal, _, h => cases hcal
                      | 1, _, hcal, _, h => cases hcal
                      | 4, _, hcal, _, h => cases hcal
                      | 2, _, hcal, _, h =>
                        unfold calOk at hcal
                        rw [hmy] at hcal
                        simp only [Bool.and_eq_true] at hcal
                        obtain ⟨⟨hfl, hnp⟩, hlk⟩ := hcal
                        have hfl1 := Nat.eq_of_beq_eq_true hfl
                        obtain ⟨hcw, hiw, hsw, hhh, -⟩ := hy1 hfl1
                        have hbnp := Nat.eq_of_beq_eq_true hnp
                        obtain ⟨a, as', has, hcell⟩ := hobj hfl1
                        cases r1 with
                        | inr x => dsimp only at h; cases h
                        | inl v =>
                          have hMet := met_of ih hMy hckm hlen hhh hypl hex
                          subst has
                          refine call_go (va_runV (y := my.y) (C := my.y.cls) (b := ad a) (rest := rest.map (cv ad)) (As := as'.map (cv ad)) (n := my.npar) hfix hMet ⟨callB_of my.npar hts (good_tb hcw) rfl rfl rfl (hts _ hyini) (hts _ (wd_in hlk)) hyd hR1, hts _ hiw, hts _ hsw⟩ ⟨Pcw_blind hXw, hcell, hpre⟩ rfl (by rw [List.length_map]; simp at hasl; omega) hlsz (by rw [map_rev]; simp [cv]) hroom hdec (hkle v rfl)) hW hS (hthen v rfl)
                      | 3, _, hcal, _, h =>
                        unfold calOk at hcal
                        rw [hmy] at hcal
                        simp only [Bool.and_eq_true] at hcal
                        obtain ⟨⟨hfl, hnp⟩, hlk⟩ := hcal
                        have hfl1 := Nat.eq_of_beq_eq_true hfl
                        obtain ⟨hcw, hiw, hsw, hhh, -⟩ := hy1 hfl1
                        have hbnp := Nat.eq_of_beq_eq_true hnp
                        obtain ⟨a, as', has, hcell⟩ := hobj hfl1
                        have hMet := met_ofX hthr ih hMy hckm hlen hhh hypl hex
                        have hkk : cells + k1 ≤ R.cells ∧ slots + 6 * k1 ≤ R.slots := by
                          cases r1 with
                          | inl v => exact hkle v rfl
                          | inr x =>
                            dsimp only [Nat.beq, cond_true] at h
                            cases hh : mi.hnd pc x with
                            | none => rw [hh] at h; cases h
                            | some q3 =>
                              rw [hh] at h
                              obtain ⟨pc', i⟩ := q3
                              dsimp only at h
                              cases hex3 : exec sh sc M n (d' + 1) mi pc' ((kil i L).set i none) [] σ1 with
                              | none => rw [hex3] at h; cases h
                              | some q4 =>
                                rw [hex3] at h
                                obtain ⟨r2, σ2, k2⟩ := q4
                                cases h
                                exact ⟨by omega, by omega⟩
                        subst has
                        refine callX_go (vx_runV (y := my.y) (C := my.y.cls) (b := ad a) (rest := rest.map (cv ad)) (As := as'.map (cv ad)) (n := my.npar) hfix hMet ⟨callB_of my.npar hts (good_tb hcw) rfl rfl rfl (hts _ hyini) (hts _ (wd_in hlk)) hyd hR1, hts _ hiw, hts _ hsw⟩ ⟨Pcw_blind hXw, hcell, hpre⟩ rfl (by rw [List.length_map]; simp at hasl; omega) hlsz (by rw [map_rev]; simp [cv]) hroom hdec hkk) hW hS (fun v H1 locs1 hv => hthen v hv H1 locs1) ?_
                        intro x H1 locs1 q ce hrx hce hcv hcl hW1 hS1
                        subst hrx
                        dsimp only [Nat.beq, cond_true] at h
                        cases hh : mi.hnd pc x with
                        | none => rw [hh] at h; cases h
                        | some q3 =>
                          rw [hh] at h
                          obtain ⟨pc', i⟩ := q3
                          dsimp only at h
                          cases hex3 : exec sh sc M n (d' + 1) mi pc' ((kil i L).set i none) [] σ1 with
                          | none => rw [hex3] at h; cases h
                          | some q4 =>
                            rw [hex3] at h
                            obtain ⟨r2, σ2, k2⟩ := q4
                            cases h
                            obtain ⟨hhne, hilt, hhd⟩ := hhdl mi hM pc x pc' i hh
                            obtain ⟨pre, xe, suf, g1, g2, g3, g4, g5, g6, g7⟩ := hhd s args c hW.2.2.2.2 hts (htab hhne)
                            refine vx_catch hown pre xe suf g1 g2 g3 g4 g5 g6 hce hcv hcl ?_
                            have hgo : ∀ ls' : Array Slot, lv_has ls' mi.maxL ((i, Value.ref q) :: (alo ad L).filter (fun q => !(q.1 == i) && !(q.1 + 1 == i && q.2.category == 2))) → W p l e R s m args below meth c H1 locs1 (cells + k1) (slots + 6 * k1) Q (F0 m pc' ls' []) := by
                              intro ls' h'
                              exact ih (d' + 1) mi pc' ((kil i L).set i none) [] σ1 _ _ k2 hex3 hM p e R s m args below meth c hx hb hml hown hts hlo htab hdf hdl H1 locs1 (cells + k1) (slots + 6 * k1) ls' Q (by omega) (by omega) hW1 hS1 (LH_x hl.1 h') (fun pc2 st2 H2 locs2 cells2 slots2 ls2 g1 g2 g3 g4 g5 g6 g7 => fin pc2 st2 H2 locs2 cells2 slots2 ls2 g1 g2 g3 g4 g5 (by omega) (by omega))
                            rcases g7 with ⟨g7, rfl⟩ | ⟨kf, rfl, g7, rfl⟩
                            · exact lv_astore hx hb g7 hl.2 hilt rfl hgo
                            · exact lv_astore_n hx hb g7 rfl hl.2 hilt rfl hgo
            · -- String's own
              rw [hbv] at h
              dsimp only at h
              cases h4 : Nat.ble 4 d' with
              | false => rw [h4] at h; cases h
              | true =>
                rw [h4] at h
                dsimp only [cond_true] at h
                have h4' := Nat.le_of_ble_eq_true h4
                have hgo : ∀ (ls' : Array Slot), ls' = ls → W p l e R s m args below meth c H locs cells slots Q (F0 m (pc + 3) ls' ((v :: rest).map (cv ad))) := fun ls' e => by
                  subst e
                  exact ih (d' + 1) mi (pc + 3) L (v :: rest) σ σ' r k h hM p e R s m args below meth c hx hb hml hown hts hlo htab hdf hdl H locs cells slots ls' Q (by omega) (by omega) hW hS hl fin
                have hls : c.maxLocals = ls.size := hml.trans hl.2.1.symm
                have hRl : ((rest.map (cv ad)).map fun v => v.category).sum + 15 ≤ R.locals := by rw [cat_sum]; omega
                have hR1f : 1 ≤ R.frames := by omega
                have hC0 : cells ≤ R.cells := by omega
                have hS0 : slots ≤ R.slots := by omega
                rcases ibuilt_at sh sc hbv with hk78 | ⟨rfl, x, y, rfl, rfl⟩ | ⟨rfl, x, y, rfl, rfl⟩ | ⟨rfl, x, y, rfl, rfl⟩ | ⟨rfl, x, y, rfl, rfl⟩
                rotate_left
                iterate 4
                  rcases hins with ⟨idx, rfl, hasl⟩ | ⟨idx, rfl, hasl⟩
                  · dsimp only at hke hdec
                    rw [Bool.and_eq_true] at hke
                    obtain rfl := len3 hke.1
                    have hcal := hke.2
                    first
                      | (have hcal : (Nat.beq b 2 && wd big (mi.pls pc) (.methodLink mi.y.cls idx Lib.Math.max.name)) = true := hcal
                         rw [Bool.and_eq_true] at hcal
                         exact va_mmax hx hb hls hown (hts _ (wd_in hcal.2)) (hts _ hmth.2.1.1) (hts _ hmth.1) (hts _ hmth.2.1.2) hR1f (Nat.le_trans (Nat.add_le_add_left (Nat.le_of_ble_eq_true rfl) _) hRl) hC0 hS0 hdec (hgo ls rfl))
                      | (have hcal : (Nat.beq b 2 && wd big (mi.pls pc) (.methodLink mi.y.cls idx Lib.Math.min.name)) = true := hcal
                         rw [Bool.and_eq_true] at hcal
                         exact va_mmin hx hb hls hown (hts _ (wd_in hcal.2)) (hts _ hmth.2.2.1.1) (hts _ hmth.1) (hts _ hmth.2.2.1.2) hR1f (Nat.le_trans (Nat.add_le_add_left (Nat.le_of_ble_eq_true rfl) _) hRl) hC0 hS0 hdec (hgo ls rfl))
                      | (have hcal : (Nat.beq b 2 && wd big (mi.pls pc) (.methodLink mi.y.cls idx Lib.MathLoose.max_long.x)) = true := hcal
                         rw [Bool.and_eq_true] at hcal
                         exact va_mmax_long hx hb hls hown (hts _ (wd_in hcal.2)) (hts _ hmth.2.2.2.1.1) (hts _ hmth.1) (hts _ hmth.2.2.2.1.2) hR1f (Nat.le_trans (Nat.add_le_add_left (Nat.le_of_ble_eq_true rfl) _) hRl) hC0 hS0 hdec (hgo ls rfl))
                      | (have hcal : (Nat.beq b 2 && wd big (mi.pls pc) (.methodLink mi.y.cls idx Lib.MathLoose.min_long.x)) = true := hcal
                         rw [Bool.and_eq_true] at hcal
                         exact va_mmin_long hx hb hls hown (hts _ (wd_in hcal.2)) (hts _ hmth.2.2.2.2.1) (hts _ hmth.1) (hts _ hmth.2.2.2.2.2) hR1f (Nat.le_trans (Nat.add_le_add_left (Nat.le_of_ble_eq_true rfl) _) hRl) hC0 hS0 hdec (hgo ls rfl))
                  · dsimp only at hke
                    rw [Bool.and_eq_true] at hke
                    cases hke.2
                obtain ⟨ys, bytes, maxL, ret, a, as', hys, hmx, has, hnp, hMet, hcw, hiw, hsw, hini, hrc⟩ := hblt kind as v hk78 hbv σ
                have hd2 : ys.cls = "java/lang/String" := by rcases hys with ⟨-, rfl⟩ | ⟨-, rfl⟩ <;> rfl
                have hyd : ys.cls ≠ "java/lang/invoke/MethodHandle" ∧ ys.cls ≠ "java/lang/invoke/VarHandle" ∧ (parseMethodDescriptor ys.desc).map (fun d => d.parameters.length) = some as'.length := ⟨by rw [hd2]; decide, by rw [hd2]; decide, hnp⟩
                rcases hins with ⟨idx, rfl, hasl⟩ | ⟨idx, rfl, hasl⟩
                · dsimp only at hke
                  rw [Bool.and_eq_true] at hke
                  rcases hys with ⟨rfl, -⟩ | ⟨rfl, -⟩ <;> cases hke.2
                · dsimp only at hke hdec
                  rw [Bool.and_eq_true] at hke
                  obtain rfl := len3 hke.1
                  have hlk : Cond.methodLink mi.y.cls idx ys ∈ big.filter goodWord := by
                    have hcal := hke.2
                    rcases hys with ⟨rfl, rfl⟩ | ⟨rfl, rfl⟩
                    · have hcal : (Nat.beq b 0 && wd big (mi.pls pc) (.methodLink mi.y.cls idx ⟨"java/lang/String", "length", "()I"⟩)) = true := hcal
                      rw [Bool.and_eq_true] at hcal
                      exact wd_in hcal.2
                    · have hcal : (Nat.beq b 1 && wd big (mi.pls pc) (.methodLink mi.y.cls idx ⟨"java/lang/String", "charAt", "(I)C"⟩)) = true := hcal
                      rw [Bool.and_eq_true] at hcal
                      exact wd_in hcal.2
                  subst has
                  refine call_go (k := 0) (v := some v) (va_runV (y := ys) (C := ys.cls) (b := ad a) (rest := rest.map (cv ad)) (As := as'.map (cv ad)) (n := as'.length) hfix hMet ⟨callB_of as'.length hts (good_tb hcw) rfl rfl rfl (hts _ hini) (hts _ hlk) hyd ⟨by show 4 + 1 ≤ R.frames; omega, by show 8 + (maxL + 11) + 64 * 4 ≤ R.locals; omega⟩, hts _ hiw, hts _ hsw⟩ ⟨Pcw_blind hXw, hrc s H hW, fun U hU hWm => ⟨rfl, by rw [hU]; exact WD_mv hXw hWm hW⟩⟩ rfl (by rw [List.length_map]) hlsz (by rw [map_rev]; simp [cv]) hroom hdec ⟨by omega, by omega⟩) hW hS (fun H1 locs1 hW1 hS1 => ?_)
                  exact ih (d' + 1) mi (pc + 3) L (v :: rest) σ σ' r k h hM p e R s m args below meth c hx hb hml hown hts hlo htab hdf hdl H1 locs1 (cells + 0) (slots + 6 * 0) ls Q (by omega) (by omega) hW1 hS1 hl (fun pc2 st2 H2 locs2 cells2 slots2 ls2 g1 g2 g3 g4 g5 g6 g7 => fin pc2 st2 H2 locs2 cells2 slots2 ls2 g1 g2 g3 g4 g5 (by omega) (by omega))
end Snd2
