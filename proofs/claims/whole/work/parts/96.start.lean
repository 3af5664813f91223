/-! ===== the law's first steps ===== -/
/-- the array classes of the system -/
theorem kT0 {b : Nat} {s : State} (hts : ∀ w ∈ lw_tbl, w.before #[Value.ref b] s = true) : ∃ cT : List (ClassId × FieldType), cT.map Prod.snd = [.int, .boolean, .long, .array .int, .object "java/lang/String"] ∧ ∀ (k : Nat) (q : ClassId × FieldType), cT[k]? = some q → ArrOfT s q.1 q.2 ∧ va_RA s q.1 q.2 := by
  have w1 : (Cond.arrayClass .int).before #[Value.ref b] s = true := hts _ (List.mem_of_getElem? (i := 166) (by decide +kernel))
  have w2 : (Cond.arrayClass .boolean).before #[Value.ref b] s = true := hts _ (List.mem_of_getElem? (i := 349) (by decide +kernel))
  have w3 : (Cond.arrayClass .long).before #[Value.ref b] s = true := hts _ (List.mem_of_getElem? (i := 167) (by decide +kernel))
  have w4 : (Cond.arrayOver (.array .int)).before #[Value.ref b] s = true := hts _ (List.mem_of_getElem? (i := 357) (by decide +kernel))
  have w5 : (Cond.arrayOver (.object "java/lang/String")).before #[Value.ref b] s = true := hts _ (List.mem_of_getElem? (i := 1314) (by decide +kernel))
  obtain ⟨c1, k1, d1, f1, g1, h1⟩ := Cond.arrayClass_spec w1
  obtain ⟨c2, k2, d2, f2, g2, h2⟩ := Cond.arrayClass_spec w2
  obtain ⟨c3, k3, d3, f3, g3, h3⟩ := Cond.arrayClass_spec w3
  obtain ⟨d4, c4, k4, e4, -, g4, h4, f4⟩ := arrayOverA_spec w4
  obtain ⟨d5, c5, k5, e5, -, g5, h5, f5⟩ := Cond.arrayOver_spec w5
  refine ⟨[(c1, .int), (c2, .boolean), (c3, .long), (c4, .array .int), (c5, .object "java/lang/String")], rfl, ?_⟩
  intro k q hq
  match k, hq with
  | 0, hq => cases hq; exact ⟨fun n z => ⟨fun k h => (by cases h), k1, g1, d1, h1⟩, f1⟩
  | 1, hq => cases hq; exact ⟨fun n z => ⟨fun k h => (by cases h), k2, g2, d2, h2⟩, f2⟩
  | 2, hq => cases hq; exact ⟨fun n z => ⟨fun k h => (by cases h), k3, g3, d3, h3⟩, f3⟩
  | 3, hq => cases hq; exact ⟨fun n z => ⟨fun k h => (by cases h), k4, g4, d4, h4⟩, f4⟩
  | 4, hq => cases hq; exact ⟨fun n z => ⟨fun k h => (by cases h), k5, g5, d5, h5⟩, k5, d5, g5, h5, e5, f5⟩
  | k + 5, hq => simp at hq
theorem kD0 {b : Nat} {s : State} (hts : ∀ w ∈ lw_tbl, w.before #[Value.ref b] s = true) : ∃ D : va_G, ∀ (k : Nat) (q : vw_C), kCl[k]? = some q → u_Kn s q.1 q.2.1 q.2.2 (D.1 k) (D.2 k) := by
  have h : ∀ k : Nat, ∃ x : ClassId × (Nat → Nat), ∀ q : vw_C, kCl[k]? = some q → u_Kn s q.1 q.2.1 q.2.2 x.1 x.2 := by
    intro k
    have kn : ∀ (C : String) (T : u_T) (N i : Nat), kCl[k]? = some (C, T, N) → wd lw_tbl i (.instantiable C N) = true → ∃ x : ClassId × (Nat → Nat), ∀ q : vw_C, kCl[k]? = some q → u_Kn s q.1 q.2.1 q.2.2 x.1 x.2 := by
      intro C T N i hk hw
      obtain ⟨c0, iS, hc⟩ := u_known (C := C) (T := T) (N := N) (n := N) hts (fun w hm => (List.mem_filter.mp ((kCY k C T N hk).1 w hm)).1) (hts _ (List.mem_filter.mp (wd_in hw)).1)
      exact ⟨(c0, iS), fun q hq => by cases hk.symm.trans hq; exact hc⟩
    match k, kn with
    | 0, kn => exact kn _ _ _ 377 rfl (by decide +kernel)
    | 1, kn => exact kn _ _ _ 418 rfl (by decide +kernel)
    | 2, kn => exact kn _ _ _ 401 rfl (by decide +kernel)
    | 3, kn => exact kn _ _ _ 351 rfl (by decide +kernel)
    | 4, kn => exact kn _ _ _ 127 rfl (by decide +kernel)
    | 5, kn => exact kn _ _ _ 139 rfl (by decide +kernel)
    | 6, kn => exact kn _ _ _ 287 rfl (by decide +kernel)
    | 7, kn => exact kn _ _ _ 133 rfl (by decide +kernel)
    | 8, kn => exact kn _ _ _ 260 rfl (by decide +kernel)
    | 9, kn => exact kn _ _ _ 119 rfl (by decide +kernel)
    | 10, kn => exact kn _ _ _ 1308 rfl (by decide +kernel)
    | n + 11, _ => exact ⟨(0, fun _ => 0), fun q hq => by simp [kCl] at hq⟩
  obtain ⟨f, hf⟩ := Classical.axiomOfChoice h
  exact ⟨(fun k => (f k).1, fun k => (f k).2), hf⟩
section LawS
variable {p : Program} {l : Launch} {e : Env} {R : Room} {s : State} {m : MethodId} {args : Array Value} {below : List Frame} {meth : Method} {c : Code} {H : Heap} {locs : List Loc} {cells slots : Nat} {Q : State → Prop}
variable {cc : ByteArray} {ls : Array Slot} {rest : List Value} {D : va_G} {A : Nat → Prop} {cT : List (ClassId × FieldType)} {own : String} {ws : va_W}
/-- new C(), by its contract -/
theorem L_nw {X : (Nat → Prop) → State → Prop} {nL : Nat} (hx : p.tables.exec = Jvm.exec) (hb : c.code = cc) (hml : c.maxLocals = nL) (hsz : ls.size = nL) (hown : s.vm.findClass own = some m.cls) (hts : ∀ w ∈ lw_tbl.filter goodWord, w.before args s = true) (hK : va_K D kCl cT s) (hA : ∀ q, s.heap.size ≤ q → A q)
    (pc : Nat) {idx idx2 i1 i2 i3 i4 i5 i6 ci fr lo mc ms N : Nat} {C : String} {T : u_T} {y : MethodName} {bytes : ByteArray} {z : List Value} {w : (Nat → Nat) → va_W} (hM : CONG X l D cT ci y bytes z w fr lo mc ms) (d1 : decode cc pc = .ok (.new idx, 3)) (d2 : decode cc (pc + 3) = .ok (.dup, 1)) (d3 : decode cc (pc + 4) = .ok (.invokespecial idx2, 3))
    (hc : kCl[ci]? = some (C, T, N)) (w1 : wd lw_tbl i1 (.classLink own idx C) = true) (w2 : wd lw_tbl i2 (.instantiable C N) = true) (w3 : wd lw_tbl i3 (.initialized C) = true) (w4 : wd lw_tbl i4 (.methodLink own idx2 y) = true) (w5 : wd lw_tbl i5 (.instanceMethod y) = true) (w6 : wd lw_tbl i6 (.code y bytes 1 none) = true)
    (hy : y.cls = C ∧ y.name = "<init>") (hyd : y.cls ≠ "java/lang/invoke/MethodHandle" ∧ y.cls ≠ "java/lang/invoke/VarHandle" ∧ (parseMethodDescriptor y.desc).map (fun d => d.parameters.length) = some 0)
    (hz : ∀ ty : Nat → FieldType, (∀ k, k < N → parseFieldDescriptor (T k).2.2.1 = some (ty k)) → ∀ j, j < N → defaultValue (ty j) = vp_V z j)
    (hXb : ∀ (B : Nat → Prop) (U : State) (g : JFrame) (mk : MethodId) (a : Array Value), X B U → X B (U.calling g mk a))
    (hX : ∀ (q : Nat) (H1 : Heap), A q → H1[q]? ≠ none → va_S A s.heap H1 locs → ∀ U : State, U.heap = H1 → s.WarmedH U.vm → X (va_A [(q, .inr (ci, z))] H1.size) U)
    (hr : (rest.map fun v => v.category).sum ≤ 5) (hfr : fr + 1 ≤ R.frames) (hlo : 8 + (1 + 11) + lo ≤ R.locals) (hce : cells + 1 + mc ≤ R.cells) (hsl : slots + N + ms ≤ R.slots) (hP : va_P D kCl ws H) (hD : va_D A ws) (hS : va_S A s.heap H locs)
    (kk : ∀ (g : Nat → Nat) (H1 : Heap) (locs1 : List Loc), va_P D kCl (ws ++ w g) H1 → va_D A (ws ++ w g) → va_S A s.heap H1 locs1 → W p l e R s m args below meth c H1 locs1 (cells + 1 + mc) (slots + N + ms) Q (F0 m (pc + 7) ls (.ref (g 0) :: rest))) :
    W p l e R s m args below meth c H locs cells slots Q (F0 m pc ls rest) := by
  obtain ⟨g1, ⟨ty0, g2⟩, -⟩ := kCY ci C T N hc
  obtain ⟨hy1, hy2⟩ := hy
  refine va_new (ci := ci) (fs := z) (C := C) (T := T) (N := N) hx hb hts g1 ty0 g2 hown (hts _ (wd_in w1)) (hts _ (wd_in w2)) (hts _ (wd_in w3)) hK hP hD hS hA hc (hz ty0 g2) (by omega) (by omega) d1 (fun q H1 hP hD hS => ?_)
  refine lv_dup hx hb d2 rfl ?_
  have hPc := hP.sub (ws' := [(q, .inr (ci, z))]) [ws.length] (last_sub _ _)
  have hDc := hD.sub (ws' := [(q, .inr (ci, z))]) [ws.length] (va_nd_of (by simp)) (last_get _ _)
  have hFc := va_free (wc := [(q, .inr (ci, z))]) hD hS hA [ws.length] (last_get _ _)
  have hq : H1[q]? ≠ none := by
    obtain ⟨r, _, cell, h1, _⟩ := hPc 0 _ rfl
    intro h
    rw [h] at h1
    cases h1
  have hqA : A q := hD.2 ws.length _ (last_at ws _)
  refine va_callv (va_runI (y := y) (b := q) (As := []) (rest := .ref q :: rest) ⟨hx, hb, hml, hown, hts⟩ (hM q H1.size) (cwI 0 hts (good_tb (wd_in w6)) rfl rfl rfl (by rw [hy1]; exact hts _ (wd_in w3)) (hts _ (wd_in w4)) (hts _ (wd_in w5)) hy2 hyd ⟨hfr, hlo⟩) ⟨fun a U g mk q => by obtain ⟨q0, q1, qP, qK, qD, qA⟩ := q; exact ⟨q0, q1, qP, va_K.moved (u := U) (U := U.calling g mk a) (Vm.Alike.refl U.vm) qK, qD, hXb _ U g mk a qA⟩, fun U hU hW => ⟨rfl, by rw [hU], by rw [hU]; exact hPc, va_K.moved hW.alike hK, hDc.weaken (fun _ _ _ _ => trivial), hX q H1 hqA hq hS U hU hW⟩⟩ rfl rfl hsz rfl (lv_room (by rw [List.map_cons, List.sum_cons, show (Value.ref q).category = 1 from rfl]; omega)) d3 ⟨hce, hsl⟩) hS (fun q _ h => hFc q h) hFc (fun g t H2 locs2 ht hvm hg hB hz1 hk1 hS => ?_)
  obtain ⟨hP1, hD1⟩ := hB
  rw [ht] at hP1
  obtain ⟨hP4, hD4⟩ := join_last hP hD hk1 hFc hP1 hD1
  have hg0 : g 0 = q := hg
  subst hg0
  exact kk g H2 locs2 hP4 hD4 hS
end LawS
