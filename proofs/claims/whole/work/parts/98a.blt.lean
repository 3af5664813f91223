/-! ===== String's length and charAt, as the small machine has them ===== -/
theorem met_mono {l : Launch} {y : MethodName} {ws : List Cond} {rm : Room} {Pc Pc' : Array Value → State → Prop} {Qc Qc' : Array Value → State → Outcome → State → Prop} {mc ms : Nat} {free free' : Addr → Prop} (h : Met l y ws rm Pc Qc mc ms free) (h1 : ∀ a U, Pc' a U → Pc a U) (h2 : ∀ a st o t, Pc' a st → Qc a st o t → Qc' a st o t) (h3 : ∀ q, free q → free' q) : Met l y ws rm Pc' Qc' mc ms free' := by
  intro p e ha hc hk s m args below hf hs hP hK
  obtain ⟨n, o, g1, g2, g3, g4, L, g5, g6⟩ := h p e ha hc hk s m args below hf hs (h1 _ _ hP) trivial
  exact ⟨n, o, g1, g2, g3, h2 _ _ _ _ hP g4, L, g5, fun q hq => h3 _ (g6 q hq)⟩
theorem kSh_6 {a t : Nat} {q : List (Nat × Nat)} (h : kSh a = some (6, t, q)) : a = 3000 + t ∧ t < 20 := by
  have hb : (List.range 3020).all (fun k => match kSh k with
    | some (6, t, _) => decide (k = 3000 + t ∧ t < 20)
    | _ => true) = true := by decide +kernel
  have hlt : a < 3020 := by
    rcases Nat.lt_or_ge a 3020 with h9 | h9
    · exact h9
    · rw [kSh_hi h9] at h
      cases h
  have h2 := List.all_eq_true.mp hb a (List.mem_range.mpr hlt)
  rw [h] at h2
  exact of_decide_eq_true h2
theorem chr_ok {b : Nat} (h : b < 128) : ((nI b &&& 255).toUInt32 % 65536).toInt32 = nI b ∧ narrow .char (.int (nI b)) = .int (nI b) := by
  have hb : (List.range 128).all (fun b => decide (((nI b &&& 255).toUInt32 % 65536).toInt32 = nI b) && decide (narrow .char (.int (nI b)) = .int (nI b))) = true := by decide +kernel
  have h2 := List.all_eq_true.mp hb b (List.mem_range.mpr h)
  simp only [Bool.and_eq_true, decide_eq_true_eq] at h2
  exact h2
theorem txt_lt (t j : Nat) : (kTx.getD t []).getD j 0 < 128 := by
  have hb : kTx.all (fun l => l.all (fun b => Nat.blt b 128)) = true := by decide +kernel
  rcases Nat.lt_or_ge t kTx.length with h | h
  · have h1 : kTx.getD t [] = kTx[t] := by rw [List.getD_eq_getElem?_getD, List.getElem?_eq_getElem h]; rfl
    rw [h1]
    have h2 := List.all_eq_true.mp hb kTx[t] (List.getElem_mem h)
    rcases Nat.lt_or_ge j kTx[t].length with h3 | h3
    · have h4 : kTx[t].getD j 0 = kTx[t][j] := by rw [List.getD_eq_getElem?_getD, List.getElem?_eq_getElem h3]; rfl
      rw [h4]
      exact Nat.le_of_ble_eq_true (List.all_eq_true.mp h2 _ (List.getElem_mem h3))
    · rw [List.getD_eq_getElem?_getD, List.getElem?_eq_none h3]
      decide
  · have h1 : kTx.getD t [] = [] := by rw [List.getD_eq_getElem?_getD, List.getElem?_eq_none h]; rfl
    rw [h1]
    exact (by decide : (0 : Nat) < 128)
theorem byt_at (t j : Nat) : (kByt t).getD j 0 = nI ((kTx.getD t []).getD j 0) := by
  unfold kByt
  rw [List.getD_eq_getElem?_getD, List.getElem?_map, List.getD_eq_getElem?_getD (l := kTx.getD t [])]
  cases (kTx.getD t [])[j]? with
  | none => rfl
  | some b => rfl
theorem byt_len (t : Nat) : (kByt t).length = (kTx.getD t []).length := by unfold kByt; rw [List.length_map]
theorem txt_len (t : Nat) : (kTx.getD t []).length < 1000 := by
  have hb : kTx.all (fun l => Nat.blt l.length 1000) = true := by decide +kernel
  rcases Nat.lt_or_ge t kTx.length with h | h
  · have h1 : kTx.getD t [] = kTx[t] := by rw [List.getD_eq_getElem?_getD, List.getElem?_eq_getElem h]; rfl
    rw [h1]
    exact Nat.le_of_ble_eq_true (List.all_eq_true.mp hb kTx[t] (List.getElem_mem h))
  · rw [List.getD_eq_getElem?_getD, List.getElem?_eq_none h]
    exact (by decide : (0 : Nat) < 1000)
section BltK
variable {pos : List Nat} {D : va_G} {cT : List (ClassId × FieldType)} {ad adV : Nat → Nat} {nL : Nat} {xs : Nat → Int32} {Hb : Heap} {l : Launch} {σ : St3}
theorem JB_of {t : Nat} (ht : t < 20) {U : State} (h : kXT ad adV nL xs Hb U) (hk : ∀ q : Nat, q < Hb.size → U.heap[q]? = Hb[q]?) : JB (ad (3000 + t)) (adV t) (kByt t).length (kByt t) U := by
  obtain ⟨-, -, -, -, h8, h9, h10⟩ := h
  have hq : ∀ a : Nat, a < Hb.size → ¬ AX Hb a → U.heap[a]? = Hb[a]? := fun a h1 _ => hk a h1
  have nr : ∀ q, oN q → AX Hb q := fun q h => absurd h id
  obtain ⟨g1, g2, g3, g4⟩ := (h8 t ht).kept hq
  exact ⟨⟨g1.narrow nr, g2.narrow nr, g3.narrow nr, g4.narrow nr⟩, (h9.kept hq).narrow nr, (h10.kept hq).narrow nr⟩
theorem WH_of {st t : State} (hW : WD kSh pos D kCl cT ad Hb (kXT ad adV nL xs Hb) σ st st.heap) (hF : va_F oN st t) : WH kSh kCl pos D cT ad Hb σ t.heap ∧ va_F (AX Hb) st t := by
  obtain ⟨hz, hk⟩ := hF
  have hk' : ∀ q : Nat, q < st.heap.size → t.heap[q]? = st.heap[q]? := fun q h => hk q h id
  refine ⟨⟨hW.1.kept (fun k x hx => hk' x.1 ((hW.1 k x hx).lt)), Nat.le_trans hW.2.2.1 hz, fun q h => (hk' q (Nat.lt_of_lt_of_le h hW.2.2.1)).trans (hW.2.2.2.1 q h)⟩, hz, fun q h _ => hk' q h⟩
theorem kBLT {sc : Sct} (hsc : sc.2.2 = kTx) : BLT kSh sc lw_tbl kCl pos D cT ad Hb (kXT ad adV nL xs Hb) l := by
  intro kind as v hk hb σ
  obtain ⟨s1, s2, s3⟩ := sc
  have hsc : s3 = kTx := hsc
  subst hsc
  have rc : ∀ {a t : Nat}, a = 3000 + t → t < 20 → ∀ (s : State) (H : Heap), WD kSh pos D kCl cT ad Hb (kXT ad adV nL xs Hb) σ s H → ∃ cell : Cell, H[ad a]? = some cell ∧ cell.vm.isStatics = false ∧ s.vm.findClass "java/lang/String" = some cell.cls := by
    rintro a t rfl ht s H hW
    obtain ⟨cell, h1, h2, h3, -⟩ := (hW.2.2.2.2.2.2.2.2.1 t ht).1.kept (H1 := H) (fun a h1 _ => hW.2.2.2.1 a h1)
    exact ⟨cell, h1, h2, h3⟩
  rcases hk with rfl | rfl
  · match as, hb with
    | [.ref a], hb =>
      have hb : (match kSh a with
        | some (6, i, _) => some (Value.int (nI (kTx.getD i []).length))
        | _ => none) = some v := hb
      split at hb
      · rename_i t q9 hs
        obtain ⟨e1, e2⟩ := kSh_6 hs
        cases hb
        refine ⟨yLn, prog_22_method_54_code, 1, some .int, a, [], Or.inl ⟨rfl, rfl⟩, by decide, rfl, by decide +kernel, ?_, wd_in (i := 752) (by decide +kernel), wd_in (i := 750) (by decide +kernel), wd_in (i := 751) (by decide +kernel), wd_in (i := 110) (by decide +kernel), rc e1 e2⟩
        subst e1
        refine met_mono (j_len (l := l) (a := ad (3000 + t)) (v := adV t) (len := (kByt t).length) (byt := kByt t) (n := nI (kTx.getD t []).length) (by rw [byt_len]; rfl)) (fun x U h => ⟨h.1, JB_of e2 h.2.2.2.2.2 h.2.2.2.2.1⟩) (fun x st o t' h hq => ?_) (fun q h => absurd h id)
        obtain ⟨⟨r, u, ho, rfl, -⟩, hF⟩ := hq
        exact ⟨ho, WH_of h.2 hF⟩
      · cases hb
    | [], hb => cases hb
    | .int x :: r, hb => cases hb
    | .long x :: r, hb => cases hb
    | .float x :: r, hb => cases hb
    | .double x :: r, hb => cases hb
    | .null :: r, hb => cases hb
    | .retAddr x :: r, hb => cases hb
    | .ref a :: w :: r, hb => cases hb
  · match as, hb with
    | [.ref a, .int j], hb =>
      have hb : (match kSh a with
        | some (6, i, _) => bif ib j (kTx.getD i []).length then some (Value.int (nI ((kTx.getD i []).getD j.toNatClampNeg 0))) else none
        | _ => none) = some v := hb
      split at hb
      · rename_i t q9 hs
        obtain ⟨e1, e2⟩ := kSh_6 hs
        obtain ⟨h1, h2⟩ := bif_at hb
        cases h2
        have hin := ib_in h1
        have hj0 : ¬ j < 0 := fun q => hin (Or.inl q)
        have hjl := ib_lt h1
        have hln := txt_len t
        have hc := chr_ok (txt_lt t j.toNatClampNeg)
        refine ⟨yCa, prog_22_method_56_code, 2, some .char, a, [.int j], Or.inr ⟨rfl, rfl⟩, by decide, rfl, (show (parseMethodDescriptor yCa.desc).map (fun d => d.parameters.length) = some 1 by decide +kernel), ?_, wd_in (i := 762) (by decide +kernel), wd_in (i := 760) (by decide +kernel), wd_in (i := 761) (by decide +kernel), wd_in (i := 110) (by decide +kernel), rc e1 e2⟩
        subst e1
        refine met_mono (j_ca (l := l) (a := ad (3000 + t)) (v := adV t) (len := (kByt t).length) (byt := kByt t) (i := j) (n := nI (kTx.getD t []).length) (x := nI ((kTx.getD t []).getD j.toNatClampNeg 0)) hj0 (by rw [byt_len]; rfl) ?_ (by rw [byt_len]; exact hin) (by rw [byt_at]; exact hc.1) hc.2) (fun x U h => ⟨h.1, JB_of e2 h.2.2.2.2.2 h.2.2.2.2.1⟩) (fun x st o t' h hq => ?_) (fun q h => absurd h id)
        · obtain ⟨k, hk1, rfl⟩ := nI_of hj0
          rw [nI_clamp hk1] at hjl
          exact nI_lt hjl (by omega)
        · obtain ⟨⟨r, u, ho, rfl, -⟩, hF⟩ := hq
          exact ⟨ho, WH_of h.2 hF⟩
      · cases hb
    | [], hb => cases hb
    | [.ref a], hb => cases hb
    | .int x :: r, hb => cases hb
    | .long x :: r, hb => cases hb
    | .float x :: r, hb => cases hb
    | .double x :: r, hb => cases hb
    | .null :: r, hb => cases hb
    | .retAddr x :: r, hb => cases hb
    | .ref a :: .long x :: r, hb => cases hb
    | .ref a :: .float x :: r, hb => cases hb
    | .ref a :: .double x :: r, hb => cases hb
    | .ref a :: .null :: r, hb => cases hb
    | .ref a :: .ref x :: r, hb => cases hb
    | .ref a :: .retAddr x :: r, hb => cases hb
    | .ref a :: .int x :: w :: r, hb => cases hb
end BltK
