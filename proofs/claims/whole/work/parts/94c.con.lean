/-! ===== rows of texts, rows of ints that are written at once ===== -/
/-- the constants' addresses -/
def TXm (ad : Nat → Nat) (U : State) : Prop := ∀ (i : Nat) (own : String) (idx : Nat) (tx : String) (a : Nat), kSts[i]? = some (own, idx, tx, a) → vk_R own idx tx (ad a) U
theorem TXm.moved {ad : Nat → Nat} {s U : State} (hW : s.WarmedH U.vm) (h : TXm ad s) : TXm ad U := fun i own idx tx a hi => vk_R.warm hW (h i own idx tx a hi)
def TCm (ad : Nat → Nat) (A : Nat → Prop) (U : State) : Prop := ∀ j, j < 20 → va_O "java/lang/String" (ad (3000 + j)) A U U.heap
theorem last_set (ws : va_W) (x y : Nat × va_E) : (ws ++ [x]).set ws.length y = ws ++ [y] := by
  rw [List.set_append_right _ _ (Nat.le_refl _), Nat.sub_self]
  rfl
theorem last_at (ws : va_W) (x : Nat × va_E) : (ws ++ [x])[ws.length]? = some x := by simp
theorem cT_obj {s : State} {D : va_G} {cT : List (ClassId × FieldType)} {C : String} {t cA cB : Nat} (hK : va_K D kCl (cT ++ [(cA, .object C)]) s) (ht : cT[t]? = some (cB, .object C)) : cA = cB := by
  obtain ⟨_, _, _, _, _, h1⟩ := (hK.2 cT.length (cA, .object C) (by simp)).2
  obtain ⟨_, _, _, _, _, h2⟩ := (hK.2 t (cB, .object C) (by rw [List.getElem?_append_left (List.getElem?_eq_some_iff.mp ht).1]; exact ht)).2
  exact Option.some.inj (h1.symm.trans h2)
section Con3
variable {p : Program} {l : Launch} {e : Env} {R : Room} {s : State} {m : MethodId} {args : Array Value} {below : List Frame} {meth : Method} {c : Code} {H : Heap} {locs : List Loc} {cells slots : Nat} {Q : State → Prop}
variable {cc : ByteArray} {ls : Array Slot} {rest : List Value} {D : va_G} {A : Nat → Prop} {cT : List (ClassId × FieldType)} {own : String} {h0 ci N : Nat} {T : u_T} {fs : List Value} {ws : va_W}
/-- this; new String[n] -/
theorem C_an (hC : CX p s m args meth c cc ls D cT A own h0 ci N T) (hAO : va_AO "java/lang/String" s) (hcT : cT.map Prod.snd = [.int, .boolean, .long, .array .int, .object "java/lang/String"]) (pc lam : Nat) {idx i N' : Nat} {n : Int32} (d0 : decode cc pc = .ok (.aload_n 0, 1)) (d1 : PU cc (pc + 1) lam n) (d2 : decode cc (pc + 1 + lam) = .ok (.anewarray idx, 3))
    (hw : wd lw_tbl i (.classLink own idx "java/lang/String") = true) (hn : ¬ n < 0) (hN : n.toNatClampNeg = N') (hby : N' * 4 ≤ 536870912) (hce : cells + 1 ≤ R.cells) (hsl : slots + N' ≤ R.slots) (hP : va_P D kCl ws H) (hD : va_D A ws) (hS : va_S A s.heap H locs)
    (kk : ∀ (q : Nat) (H1 : Heap), va_P D kCl (ws ++ [(q, .inl (cid cT 4, N', .inr (.inr (.inr (.inr (fun _ => none))))))]) H1 → va_D A (ws ++ [(q, .inl (cid cT 4, N', .inr (.inr (.inr (.inr (fun _ => none))))))]) → va_S A s.heap H1 locs → W p l e R s m args below meth c H1 locs (cells + 1) (slots + N') Q (F0 m (pc + 1 + lam + 3) ls [.ref q, .ref h0])) :
    W p l e R s m args below meth c H locs cells slots Q (F0 m pc ls []) :=
  lv_aload_n (i := 0) hC.1 hC.2.1 d0 rfl hC.2.2.2.2.2.2.1 (PU.go hC.1 hC.2.1 d1 (va_newq hC.1 hC.2.1 hC.2.2.1 (hC.2.2.2.1 _ (wd_in hw)) hAO hC.2.2.2.2.2.1 hP hD hS hC.2.2.2.2.2.2.2.2.1 hn hN hby hce hsl d2 fun q cA H1 hK1 hP1 hD1 hS1 => by
    obtain rfl := cT_obj hK1 (hy_ty hcT (t := 4) rfl)
    exact kk q H1 hP1 hD1 hS1))
/-- row[i] = text -/
theorem C_ts (hC : CX p s m args meth c cc ls D cT A own h0 ci N T) (hcT : cT.map Prod.snd = [.int, .boolean, .long, .array .int, .object "java/lang/String"]) {ad : Nat → Nat} (hTx : TXm ad s) (hTc : TCm ad A s) (pc lam ki a : Nat) {idx n q : Nat} {tx : String} {i : Int32} {f : Nat → Option Nat} (hk : kSts[ki]? = some (own, idx, tx, 3000 + a)) (ha : a < 20) (d0 : decode cc pc = .ok (.dup, 1)) (d1 : PU cc (pc + 1) lam i) (d2 : decode cc (pc + 1 + lam) = .ok (.ldc idx, 2)) (d3 : decode cc (pc + 1 + lam + 2) = .ok (.aastore, 1)) (hin : vp_in i n)
    (hP : va_P D kCl (ws ++ [(q, .inl (cid cT 4, n, .inr (.inr (.inr (.inr f)))))]) H) (hD : va_D A (ws ++ [(q, .inl (cid cT 4, n, .inr (.inr (.inr (.inr f)))))])) (hS : va_S A s.heap H locs)
    (kk : ∀ (H1 : Heap) (locs1 : List Loc), va_P D kCl (ws ++ [(q, .inl (cid cT 4, n, .inr (.inr (.inr (.inr (va_up f i.toNatClampNeg (some (ad (3000 + a)))))))))]) H1 → va_D A (ws ++ [(q, .inl (cid cT 4, n, .inr (.inr (.inr (.inr (va_up f i.toNatClampNeg (some (ad (3000 + a)))))))))]) → va_S A s.heap H1 locs1 → W p l e R s m args below meth c H1 locs1 cells slots Q (F0 m (pc + 1 + lam + 2 + 1) ls (.ref q :: rest))) :
    W p l e R s m args below meth c H locs cells slots Q (F0 m pc ls (.ref q :: rest)) := by
  obtain ⟨hx, hb, hown, hts, hin', hK, hl0, hc, hA, hml⟩ := hC
  refine lv_dup hx hb d0 rfl ?_
  refine PU.go hx hb d1 ?_
  refine va_ldcS hx hb hown (hTx ki own idx tx (3000 + a) hk) d2 ?_
  obtain ⟨cell, g1, g2, g3, -⟩ := (hTc a ha).kept hS.2.1
  refine vb_astq (E := "java/lang/String") (C := "java/lang/String") hx hb hK hP hD hS ws.length 4 (last_at ws _) (hy_ty hcT rfl) ⟨cell, g1, g2, g3⟩ (fun comp c0 h1 h2 => by cases h1.symm.trans h2; exact va_asg _ _) hin d3 (fun H1 locs1 hP1 hD1 hS1 => ?_)
  rw [last_set] at hP1 hD1
  exact kk H1 locs1 hP1 hD1 hS1
/-- row[i] = v -/
theorem C_is (hC : CX p s m args meth c cc ls D cT A own h0 ci N T) (hcT : cT.map Prod.snd = [.int, .boolean, .long, .array .int, .object "java/lang/String"]) (pc lam lam2 : Nat) {n q : Nat} {i v : Int32} {f : Nat → Int32} (d0 : decode cc pc = .ok (.dup, 1)) (d1 : PU cc (pc + 1) lam i) (d2 : PU cc (pc + 1 + lam) lam2 v) (d3 : decode cc (pc + 1 + lam + lam2) = .ok (.iastore, 1)) (hin : vp_in i n)
    (hP : va_P D kCl (ws ++ [(q, .inl (cid cT 0, n, .inl f))]) H) (hD : va_D A (ws ++ [(q, .inl (cid cT 0, n, .inl f))])) (hS : va_S A s.heap H locs)
    (kk : ∀ (H1 : Heap) (locs1 : List Loc), va_P D kCl (ws ++ [(q, .inl (cid cT 0, n, .inl (upd f i.toNatClampNeg v)))]) H1 → va_D A (ws ++ [(q, .inl (cid cT 0, n, .inl (upd f i.toNatClampNeg v)))]) → va_S A s.heap H1 locs1 → W p l e R s m args below meth c H1 locs1 cells slots Q (F0 m (pc + 1 + lam + lam2 + 1) ls (.ref q :: rest))) :
    W p l e R s m args below meth c H locs cells slots Q (F0 m pc ls (.ref q :: rest)) := by
  obtain ⟨hx, hb, hown, hts, hin', hK, hl0, hc, hA, hml⟩ := hC
  refine lv_dup hx hb d0 rfl ?_
  refine PU.go hx hb d1 (PU.go hx hb d2 ?_)
  refine va_iast hx hb hK hP hD hS ws.length 0 (last_at ws _) (hy_ty hcT rfl) hin d3 (fun H1 locs1 hP1 hD1 hS1 => ?_)
  rw [last_set] at hP1 hD1
  exact kk H1 locs1 hP1 hD1 hS1
/-- this; new int[n] -/
theorem C_ni (hC : CX p s m args meth c cc ls D cT A own h0 ci N T) (hcT : cT.map Prod.snd = [.int, .boolean, .long, .array .int, .object "java/lang/String"]) (pc lam : Nat) {i N' : Nat} {n : Int32} (d0 : decode cc pc = .ok (.aload_n 0, 1)) (d1 : PU cc (pc + 1) lam n) (d2 : decode cc (pc + 1 + lam) = .ok (.newarray .int, 2))
    (hw : wd lw_tbl i (.arrayClass .int) = true) (hn : ¬ n < 0) (hN : n.toNatClampNeg = N') (hby : N' * 4 ≤ 536870912) (hce : cells + 1 ≤ R.cells) (hsl : slots + N' ≤ R.slots) (hP : va_P D kCl ws H) (hD : va_D A ws) (hS : va_S A s.heap H locs)
    (kk : ∀ (q : Nat) (H1 : Heap), va_P D kCl (ws ++ [(q, .inl (cid cT 0, N', .inl fun _ => 0))]) H1 → va_D A (ws ++ [(q, .inl (cid cT 0, N', .inl fun _ => 0))]) → va_S A s.heap H1 locs → W p l e R s m args below meth c H1 locs (cells + 1) (slots + N') Q (F0 m (pc + 1 + lam + 2) ls [.ref q, .ref h0])) :
    W p l e R s m args below meth c H locs cells slots Q (F0 m pc ls []) :=
  lv_aload_n (i := 0) hC.1 hC.2.1 d0 rfl hC.2.2.2.2.2.2.1 (PU.go hC.1 hC.2.1 d1 (C_na (t := 0) (ty := .int) (a0 := (N', .inl fun _ => 0)) hC d2 hw rfl (hy_ty hcT rfl) (fun C h => by cases h) (fun _ => rfl) rfl hn hN hby hce hsl hP hD hS kk))
end Con3
