/-! ===== what the Statement gives of the launch ===== -/
def kFl : List Cond := flatC (Cond.and given_1 narrow_1)
def kRd (t : Nat) : Nat := [118, 120, 122, 124, 126, 221, 223, 225, 227, 229, 231, 233, 128, 130, 132, 148, 156, 190, 199, 201].getD t 0
def kMd (t : Nat) : Nat := [9, 11, 13, 15, 17, 25, 27, 29, 31, 33, 35, 37, 279, 281, 283, 274, 275, 265, 260, 252].getD t 0
def tmR (t : Nat) : Term := .string "MeshWaters$Reader" (kRd t)
def tmM (t : Nat) : Term := .string "MeshWatersModel" (kMd t)
def tmV (t : Nat) : Term := .field (tmR t) "java/lang/String" "value" "[B"
def tWs (t : Nat) : List Cond := [.exactly (tmR t) "java/lang/String", .eq (.field (tmR t) "java/lang/String" "coder" "B") (.int 0), .arrayOf (tmV t) .byte, .eq (.length (tmV t)) (.int (Int32.ofNat (kByt t).length)), .eq (tmR t) (tmM t)] ++ (List.range (kByt t).length).map (fun j => .eq (.elem (tmV t) (.int (Int32.ofNat j))) (.int ((kByt t).getD j 0)))
theorem tWs_ok : (List.range 20).all (fun t => (tWs t).all (fun w => kFl.any (fun v => decide (v = w)))) = true := by decide +kernel
/-- the constants' rows in the tables -/
theorem kSts_ok : (List.range kSts.length).all (fun i => match kSts[i]? with
    | some (own, idx, tx, a) => Nat.ble 3000 a && Nat.blt a 3020 && lw_tbl.any (fun v => decide (v = .stringRef own idx tx)) && (decide (own = "MeshWaters$Reader" ∧ idx = kRd (a - 3000)) || decide (own = "MeshWatersModel" ∧ idx = kMd (a - 3000)))
    | none => true) = true := by decide +kernel
theorem flw_in {b : Nat} {s : State} (hgv : (Cond.and given_1 narrow_1).before #[Value.ref b] s = true) {w : Cond} (h : kFl.any (fun v => decide (v = w)) = true) : w.before #[Value.ref b] s = true := by
  obtain ⟨v, hv, e⟩ := List.any_eq_true.mp h
  have e2 : v = w := of_decide_eq_true e
  subst e2
  exact flat_of_before _ hgv v hv
theorem t_in {b : Nat} {s : State} (hgv : (Cond.and given_1 narrow_1).before #[Value.ref b] s = true) {t : Nat} (ht : t < 20) : ∀ w ∈ tWs t, w.before #[Value.ref b] s = true := fun w hw => flw_in hgv (List.all_eq_true.mp (List.all_eq_true.mp tWs_ok t (List.mem_range.mpr ht)) w hw)
theorem kTxts {b : Nat} {s : State} (hts : ∀ w ∈ lw_tbl, w.before #[Value.ref b] s = true) (hgv : (Cond.and given_1 narrow_1).before #[Value.ref b] s = true) : ∃ tad adV : Nat → Nat, TXm tad s ∧ ∀ j, j < 20 → kTxt (tad (3000 + j)) (adV j) (kByt j).length (kByt j) (AX s.heap) s s.heap := by
  have hA : ∀ a : Nat, a < s.heap.size → ¬ AX s.heap a := fun a h h2 => by have h3 : s.heap.size ≤ a := h2; omega
  have one : ∀ t : Nat, ∃ q : Nat × Nat, t < 20 → kTxt q.1 q.2 (kByt t).length (kByt t) (AX s.heap) s s.heap ∧ (tmR t).eval #[Value.ref b] s none [] s = some (.ref q.1) := by
    intro t
    by_cases ht : t < 20
    · have hw := t_in hgv ht
      obtain ⟨adK, adV, h1, h2⟩ := vk_Sof (args := #[Value.ref b]) (s := s) (N := 1) (tm := fun _ => tmR t) (len := [(kByt t).length]) (byt := [kByt t]) (A := AX s.heap) (fun i hi => by
          obtain rfl : i = 0 := by omega
          show (kByt t).length < 2 ^ 31
          have := txt_len t
          rw [byt_len]; omega)
        (fun i _ => hw _ (List.mem_append_left _ (List.mem_of_getElem? (i := 0) rfl))) (fun i _ => hw _ (List.mem_append_left _ (List.mem_of_getElem? (i := 1) rfl))) (fun i _ => hw _ (List.mem_append_left _ (List.mem_of_getElem? (i := 2) rfl)))
        (fun i hi => by
          obtain rfl : i = 0 := by omega
          exact hw _ (List.mem_append_left _ (List.mem_of_getElem? (i := 3) rfl)))
        (fun i hi j hj => by
          obtain rfl : i = 0 := by omega
          exact hw _ (List.mem_append_right _ (List.mem_map.mpr ⟨j, List.mem_range.mpr hj, rfl⟩)))
        (fun i j hi hj h => absurd (show i = j by omega) h) hA
      exact ⟨(adK 0, adV 0), fun _ => ⟨h1.1 0 (by omega), h2 0 (by omega)⟩⟩
    · exact ⟨(0, 0), fun h => absurd h ht⟩
  obtain ⟨f, hf⟩ := Classical.axiomOfChoice one
  refine ⟨fun k => (f (k - 3000)).1, fun j => (f j).2, fun i own idx tx a hi => ?_, fun j hj => ?_⟩
  · have hl : i < kSts.length := (List.getElem?_eq_some_iff.mp hi).1
    have h := List.all_eq_true.mp kSts_ok i (List.mem_range.mpr hl)
    rw [hi] at h
    simp only [Bool.and_eq_true, Bool.or_eq_true, decide_eq_true_eq] at h
    obtain ⟨⟨⟨h1, h2⟩, h3⟩, h4⟩ := h
    have h1 := Nat.le_of_ble_eq_true h1
    have h2 : a < 3020 := Nat.le_of_ble_eq_true h2
    have ht : a - 3000 < 20 := by omega
    obtain ⟨v, hv, e⟩ := List.any_eq_true.mp h3
    have e2 : v = .stringRef own idx tx := of_decide_eq_true e
    subst e2
    refine vk_R.of (A := #[Value.ref b]) (hts _ hv) ?_
    rcases h4 with ⟨g1, g2⟩ | ⟨g1, g2⟩
    · rw [g1, g2]
      exact (hf (a - 3000) ht).2
    · rw [g1, g2]
      exact va_eqR (t_in hgv ht (.eq (tmR (a - 3000)) (tmM (a - 3000))) (List.mem_append_left _ (List.mem_of_getElem? (i := 4) rfl))) (hf (a - 3000) ht).2
  · show kTxt (f (3000 + j - 3000)).1 _ _ _ _ _ _
    rw [Nat.add_sub_cancel_left]
    exact (hf j hj).1
/-- all of it -/
theorem kXT0 {b nL : Nat} {xs : Nat → Int32} {s : State} (hts : ∀ w ∈ lw_tbl, w.before #[Value.ref b] s = true) (hgv : (Cond.and given_1 narrow_1).before #[Value.ref b] s = true) (hX : va_X b nL xs s s.heap) : ∃ tad adV : Nat → Nat, TXm tad s ∧ (∀ j, j < 20 → va_O "java/lang/String" (tad (3000 + j)) (AX s.heap) s s.heap) ∧ ∀ ad : Nat → Nat, (∀ k, 3000 ≤ k → ad k = tad k) → ad 2500 = b → kXT ad adV nL xs s.heap s := by
  have hA : ∀ a : Nat, a < s.heap.size → ¬ AX s.heap a := fun a h h2 => by have h3 : s.heap.size ≤ a := h2; omega
  obtain ⟨tad, adV, h1, h2⟩ := kTxts hts hgv
  refine ⟨tad, adV, h1, fun j hj => (h2 j hj).1, fun ad had hb => ?_⟩
  have nw : ∀ {w : Cond} (i : Nat), w.onTables = true → lw_tbl[i]? = some w → va_Nw w s := fun i hw hi => va_Nw.of hw (hts _ (List.mem_of_getElem? hi))
  refine ⟨fun i own idx tx a hi => ?_, ⟨fun i own idx y host hi => ?_, ⟨nw 651 rfl (by decide +kernel), nw 954 rfl (by decide +kernel)⟩, ⟨nw 652 rfl (by decide +kernel), nw 654 rfl (by decide +kernel), nw 656 rfl (by decide +kernel)⟩, va_Nc.of (flw_in hgv (by decide +kernel))⟩, by rw [hb]; exact hX,
    ⟨vx_Zqof (hts _ (List.mem_of_getElem? (i := 676) (by decide +kernel))) (hts _ (List.mem_of_getElem? (i := 106) (by decide +kernel))) (flw_in hgv (by decide +kernel)) hA, vx_Zqof (hts _ (List.mem_of_getElem? (i := 678) (by decide +kernel))) (hts _ (List.mem_of_getElem? (i := 106) (by decide +kernel))) (flw_in hgv (by decide +kernel)) hA⟩,
    fun j hj => ?_, va_Zof (hts _ (List.mem_of_getElem? (i := 758) (by decide +kernel))) (hts _ (List.mem_of_getElem? (i := 110) (by decide +kernel))) (va_eqi (flw_in hgv (by decide +kernel))) hA, va_Zqof (hts _ (List.mem_of_getElem? (i := 774) (by decide +kernel))) (hts _ (List.mem_of_getElem? (i := 112) (by decide +kernel))) (flw_in hgv (by decide +kernel)) hA⟩
  · have hl : i < kSts.length := (List.getElem?_eq_some_iff.mp hi).1
    have h := List.all_eq_true.mp kSts_ok i (List.mem_range.mpr hl)
    rw [hi] at h
    simp only [Bool.and_eq_true, Bool.or_eq_true, decide_eq_true_eq] at h
    rw [had a (Nat.le_of_ble_eq_true h.1.1.1)]
    exact h1 i own idx tx a hi
  · match i, hi with
    | 0, hi => cases hi; exact nw 824 rfl (by decide +kernel)
    | 1, hi => cases hi; exact nw 559 rfl (by decide +kernel)
    | 2, hi => cases hi; exact nw 565 rfl (by decide +kernel)
    | 3, hi => cases hi; exact nw 507 rfl (by decide +kernel)
    | 4, hi => cases hi; exact nw 602 rfl (by decide +kernel)
    | 5, hi => cases hi; exact nw 1074 rfl (by decide +kernel)
    | 6, hi => cases hi; exact nw 1091 rfl (by decide +kernel)
    | 7, hi => cases hi; exact nw 1228 rfl (by decide +kernel)
    | i + 8, hi => simp [kNsl] at hi
  · rw [had _ (by omega)]
    exact h2 j hj
theorem kCN0 {b : Nat} {s : State} (hts : ∀ w ∈ lw_tbl, w.before #[Value.ref b] s = true) : CN s := by
  have nw : ∀ {w : Cond} (i : Nat), w.onTables = true → lw_tbl[i]? = some w → va_Nw w s := fun i hw hi => va_Nw.of hw (hts _ (List.mem_of_getElem? hi))
  refine ⟨va_AOA.of (A := #[Value.ref b]) (hts _ (List.mem_of_getElem? (i := 357) (by decide +kernel))), ?_⟩
  exact List.forall_mem_cons.mpr ⟨nw 128 rfl (by decide +kernel), List.forall_mem_cons.mpr ⟨nw 134 rfl (by decide +kernel), List.forall_mem_cons.mpr ⟨nw 140 rfl (by decide +kernel), List.forall_mem_cons.mpr ⟨nw 258 rfl (by decide +kernel), List.forall_mem_cons.mpr ⟨nw 288 rfl (by decide +kernel), List.forall_mem_cons.mpr ⟨nw 352 rfl (by decide +kernel), List.forall_mem_cons.mpr ⟨nw 378 rfl (by decide +kernel), List.forall_mem_cons.mpr ⟨nw 402 rfl (by decide +kernel), List.forall_mem_cons.mpr ⟨nw 419 rfl (by decide +kernel), fun q hq => by cases hq⟩⟩⟩⟩⟩⟩⟩⟩⟩
