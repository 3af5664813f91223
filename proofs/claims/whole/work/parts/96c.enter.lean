/-! ===== from the law's entry to its loop ===== -/
theorem fm_of_map {α β : Type} {f : α → Option β} : ∀ {is : List α} {l : List β}, is.map f = l.map some → is.filterMap f = l
  | [], [], _ => rfl
  | [], _ :: _, h => by cases h
  | _ :: _, [], h => by cases h
  | a :: is, b :: l, h => by
    have h1 := List.cons.inj h
    rw [List.filterMap_cons, h1.1, fm_of_map h1.2]
theorem ad_inj {sh : Shp} {pos : List Nat} {cT : List (ClassId × FieldType)} {ad : Nat → Nat} {σ : St3} {A : Nat → Prop} (hD : va_D A (wsO sh pos cT ad σ)) : (∀ i j, i ∈ pos → j ∈ pos → ad i = ad j → i = j) ∧ ∀ k, k ∈ pos → A (ad k) := by
  constructor
  · intro i j hi hj h
    obtain ⟨a, h1⟩ := List.getElem?_of_mem hi
    obtain ⟨c, h2⟩ := List.getElem?_of_mem hj
    have e1 : (wsO sh pos cT ad σ)[a]? = some (ad i, cel sh cT ad σ i) := by rw [wsO, List.getElem?_map, h1]; rfl
    have e2 : (wsO sh pos cT ad σ)[c]? = some (ad j, cel sh cT ad σ j) := by rw [wsO, List.getElem?_map, h2]; rfl
    have e3 := hD.1 a c _ _ e1 e2 h
    subst e3
    exact Option.some.inj (h1.symm.trans h2)
  · intro k hk
    obtain ⟨a, h1⟩ := List.getElem?_of_mem hk
    exact hD.2 a (ad k, cel sh cT ad σ k) (by rw [wsO, List.getElem?_map, h1]; rfl)
/-- up to the law's loop -/
theorem enter {p : Program} {e : Env} {s : State} {m : MethodId} {below : List Frame} {meth : Method} {c : Code} {l : Launch} {b : Nat} {Q : State → Prop} {D : va_G} {cT : List (ClassId × FieldType)} {tad : Nat → Nat} (hx : p.tables.exec = Jvm.exec) (hb : c.code = code) (hml : c.maxLocals = 8) (hown : s.vm.findClass "MeshWatersLaw" = some m.cls) (hts : ∀ w ∈ lw_tbl.filter goodWord, w.before #[Value.ref b] s = true)
    (hcT : cT.map Prod.snd = [.int, .boolean, .long, .array .int, .object "java/lang/String"]) (hK : va_K D kCl cT s) (hCN : CN s) (hAO : va_AO "java/lang/String" s) (hTX : TXm tad s) (hTC : ∀ j, j < 20 → va_O "java/lang/String" (tad (3000 + j)) (AX s.heap) s s.heap)
    (kk : ∀ (ad : Nat → Nat) (H1 : Heap) (locs1 : List Loc) (ls : Array Slot), (∀ k, 3000 ≤ k → ad k = tad k) → ad 2500 = b → va_P D kCl (wsO kSh kPos cT ad (kS0, kM0, kO0)) H1 → va_D (AX s.heap) (wsO kSh kPos cT ad (kS0, kM0, kO0)) → va_S (AX s.heap) s.heap H1 locs1 → LH ad ls 8 [some (.ref 2500), some (.ref 0), some (.ref 1000), some (.ref 2000), some (.int 0), none, none, none] →
      ∀ cells slots : Nat, cells ≤ 1000 → slots ≤ 100000 → W p l e room_1 s m #[Value.ref b] below meth c H1 locs1 cells slots Q (F0 m 23 ls [])) :
    W p l e room_1 s m #[Value.ref b] below meth c s.heap [] 0 0 Q (entryFrame m ([Value.ref b] : List Value).toArray 8) := by
  have hA : ∀ q : Nat, s.heap.size ≤ q → AX s.heap q := fun _ h => h
  have hS : va_S (AX s.heap) s.heap s.heap [] := va_S.rf
  have hP : va_P D kCl [] s.heap := fun k q h => by simp at h
  have hD : va_D (AX s.heap) [] := ⟨fun i j p q h => by simp at h, fun k q h => by simp at h⟩
  have hl := lv_entry ([.ref b]) (n := 8) (Nat.le_of_ble_eq_true rfl)
  rw [lg_entry_eq]
  generalize (lg_sl ([.ref b]) ++ List.replicate (8 - (lg_sl ([.ref b])).length) Slot.unset).toArray = ls at hl ⊢
  have hl : lv_has ls 8 [(0, .ref b)] := hl
  have hlt : ∀ {q : Nat} {H1 : Heap} {ce : va_E}, AX s.heap q → s.heap.size ≤ H1.size → ∀ a, va_A [(q, ce)] H1.size a → AX s.heap a := fun hq hz a ha => by
    rcases ha with ⟨k, e9, hk⟩ | ha
    · match k, hk with
      | 0, hk => cases hk; exact hq
      | k + 1, hk => simp at hk
    · exact Nat.le_trans hz ha
  refine L_nw (ci := 9) (C := RX9) (T := TX9) (N := 12) (idx := 8) (idx2 := 103) (i1 := 118) (i2 := 119) (i3 := 95) (i4 := 120) (i5 := 121) (i6 := 122) (X := fun _ => CN) hx hb hml hl.1 hown hts hK hA 0 (con_9 l D cT hcT) (by decide +kernel) (by decide +kernel) (by decide +kernel) rfl (by decide +kernel) (by decide +kernel) (by decide +kernel) (by decide +kernel) (by decide +kernel) (by decide +kernel) ⟨rfl, rfl⟩ ⟨by decide +kernel, by decide +kernel, by decide +kernel⟩ hz_9
    (fun B U g mk a h => CN.moved (U := U.calling g mk a) (State.WarmedH.refl U) h) (fun q H1 _ _ _ U hU hW => CN.moved hW hCN) (by decide) (Nat.le_of_ble_eq_true rfl) (Nat.le_of_ble_eq_true rfl) (Nat.le_of_ble_eq_true rfl) (Nat.le_of_ble_eq_true rfl) hP hD hS (fun g9 H locs hP hD hS => ?_)
  refine lv_astore_n (lv' := [(1, .ref (g9 0)), (0, .ref b)]) (k := 1) hx hb (by decide +kernel) rfl hl (by decide) rfl (fun ls hl => ?_)
  refine L_nw (ci := 10) (C := RX10) (T := TX10) (N := 65) (idx := 104) (idx2 := 106) (i1 := 1307) (i2 := 1308) (i3 := 105) (i4 := 1309) (i5 := 1310) (i6 := 1311) (X := fun A U => va_AO "java/lang/String" U ∧ TXm tad U ∧ TCm tad A U) hx hb hml hl.1 hown hts hK hA 8 (con_10 tad l D cT hcT) (by decide +kernel) (by decide +kernel) (by decide +kernel) rfl (by decide +kernel) (by decide +kernel) (by decide +kernel) (by decide +kernel) (by decide +kernel) (by decide +kernel) ⟨rfl, rfl⟩ ⟨by decide +kernel, by decide +kernel, by decide +kernel⟩ hz_10
    (fun B U g mk a h => ⟨va_AO.moved (U := U.calling g mk a) (Vm.Alike.refl U.vm) h.1, TXm.moved (U := U.calling g mk a) (State.WarmedH.refl U) h.2.1, fun j hj => va_O.moved (U := U.calling g mk a) (Vm.Alike.refl U.vm) (h.2.2 j hj)⟩)
    (fun q H1 hq _ hS1 U hU hW => ⟨va_AO.moved hW.alike hAO, TXm.moved hW hTX, fun j hj => by rw [hU]; exact va_O.moved hW.alike (((hTC j hj).kept hS1.2.1).narrow (hlt hq hS1.1))⟩) (by decide) (Nat.le_of_ble_eq_true rfl) (Nat.le_of_ble_eq_true rfl) (Nat.le_of_ble_eq_true rfl) (Nat.le_of_ble_eq_true rfl) hP hD hS (fun g10 H locs hP hD hS => ?_)
  refine lv_astore_n (lv' := [(2, .ref (g10 0)), (1, .ref (g9 0)), (0, .ref b)]) (k := 2) hx hb (by decide +kernel) rfl hl (by decide) rfl (fun ls hl => ?_)
  refine lv_iconst (v := 1) hx hb (show decode code 16 = .ok (.iconst 1, 1) by decide +kernel) (by decide) ?_
  refine va_newa (atype := .long) (ty := .long) (N' := 1) (a0 := (1, .inr (.inl fun _ => 0))) hx hb (hts _ (wd_in (i := 167) (by decide +kernel))) rfl hK hP hD hS hA (fun _ => rfl) (by decide) (by decide) (Nat.le_of_ble_eq_true rfl) (Nat.le_of_ble_eq_true rfl) (Nat.le_of_ble_eq_true rfl) (show decode code 17 = .ok (.newarray .long, 2) by decide +kernel) (fun out cA H hK1 hP hD hS => ?_)
  obtain rfl := cT_one (t := 2) hK1 (hy_ty hcT rfl) (fun C h => by cases h)
  refine lv_astore_n (lv' := [(3, .ref out), (2, .ref (g10 0)), (1, .ref (g9 0)), (0, .ref b)]) (k := 3) hx hb (show decode code 19 = .ok (.astore_n 3, 1) by decide +kernel) rfl hl (by decide) rfl (fun ls hl => ?_)
  refine lv_iconst (v := 0) hx hb (show decode code 20 = .ok (.iconst 0, 1) by decide +kernel) (by decide) ?_
  refine lv_istore (lv' := [(4, .int 0), (3, .ref out), (2, .ref (g10 0)), (1, .ref (g9 0)), (0, .ref b)]) (i := 4) hx hb (show decode code 21 = .ok (.istore 4, 2) by decide +kernel) hl (by decide) rfl (fun ls hl => ?_)
  have hm := kWe_is cT g9 g10 out b tad
  refine kk (kAd g9 g10 out b tad) H locs ls (fun k hk => kAd_t hk) rfl ((kWe_P (b := b) hP).sub kIs (fm_of_map hm)) ((kWe_D (b := b) hD).sub kIs (by decide +kernel) hm) hS ⟨rfl, hl.mono fun q hq => ?_⟩ _ _ (Nat.le_of_ble_eq_true rfl) (Nat.le_of_ble_eq_true rfl)
  obtain ⟨i, w⟩ := q
  obtain ⟨v, hv, rfl⟩ := mem_alo.mp hq
  match i, hv with
  | 0, hv => cases hv; exact List.mem_of_getElem? (i := 4) rfl
  | 1, hv => cases hv; exact List.mem_of_getElem? (i := 3) rfl
  | 2, hv => cases hv; exact List.mem_of_getElem? (i := 2) rfl
  | 3, hv => cases hv; exact List.mem_of_getElem? (i := 1) rfl
  | 4, hv => cases hv; exact List.mem_of_getElem? (i := 0) rfl
  | 5, hv => cases hv
  | 6, hv => cases hv
  | 7, hv => cases hv
  | i + 8, hv => simp at hv
