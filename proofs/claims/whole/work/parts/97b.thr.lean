/-! ===== every throw site ===== -/
def thrE (mi : MI) (pc : Nat) : Bool := match mi.code pc with
  | some (.new i, _, a, _, _) => decide (mi.y.cls = "MeshWaters") && ((Nat.beq i 88 && Nat.beq a 0 && decide (decode mi.bytes (pc + 4) = .ok (.invokespecial 90, 3))) || (Nat.beq i 155 && Nat.beq a 1 && decide (decode mi.bytes (pc + 4) = .ok (.invokespecial 157, 3)))) && decide (decode mi.bytes (pc + 3) = .ok (.dup, 1)) && decide (decode mi.bytes (pc + 7) = .ok (.athrow, 1))
  | _ => true
def thrB (mi : MI) : Bool := (List.range mi.clen).all (thrE mi)
theorem thr_all : MT.all thrB = true := by decide +kernel
theorem thr_at {mi : MI} (hM : mi ∈ MT) {pc i len a b : Nat} {v : Value} (hc : mi.code pc = some (.new i, len, a, b, v)) : mi.y.cls = "MeshWaters" ∧ ((i = 88 ∧ a = 0 ∧ decode mi.bytes (pc + 4) = .ok (.invokespecial 90, 3)) ∨ (i = 155 ∧ a = 1 ∧ decode mi.bytes (pc + 4) = .ok (.invokespecial 157, 3))) ∧ decode mi.bytes (pc + 3) = .ok (.dup, 1) ∧ decode mi.bytes (pc + 7) = .ok (.athrow, 1) := by
  have h := List.all_eq_true.mp thr_all mi hM
  have hlt : pc < mi.clen := by
    cases hb : Nat.blt pc mi.clen with
    | true => exact Nat.le_of_ble_eq_true hb
    | false =>
      have h9 : mi.code pc = none := by
        show (bif Nat.blt pc mi.clen then mi.2.2.1 pc else none) = none
        rw [hb]
        rfl
      rw [h9] at hc
      cases hc
  have h2 := List.all_eq_true.mp h pc (List.mem_range.mpr hlt)
  unfold thrE at h2
  rw [hc] at h2
  simp only [Bool.and_eq_true, Bool.or_eq_true, decide_eq_true_eq] at h2
  obtain ⟨⟨⟨h3, h4⟩, h5⟩, h6⟩ := h2
  refine ⟨h3, ?_, h5, h6⟩
  rcases h4 with ⟨⟨g1, g2⟩, g3⟩ | ⟨⟨g1, g2⟩, g3⟩
  · exact Or.inl ⟨Nat.eq_of_beq_eq_true g1, Nat.eq_of_beq_eq_true g2, g3⟩
  · exact Or.inr ⟨Nat.eq_of_beq_eq_true g1, Nat.eq_of_beq_eq_true g2, g3⟩
theorem kTHR {ad adV : Nat → Nat} {nL : Nat} {xs : Nat → Int32} {Hb : Heap} {l : Launch} (hl : l.stackTraces = false) : THR MT lw_tbl Hb (kXT ad adV nL xs Hb) l kXn := by
  intro mi hM pc a st hfin p e R s m args below meth c H locs cells slots mc ms ls free Qc XC hx hb hown hts hXT hsz hkp hS hls htab hRf hRl hRc hRs hlocks hXC hfr hc hs
  have hck := kCk mi hM
  unfold ifin at hfin
  cases hcd : mi.code pc with
  | none => rw [hcd] at hfin; cases hfin
  | some ent =>
    rw [hcd] at hfin
    obtain ⟨ins, len, a1, b, v⟩ := ent
    have hk := chk_at MT lw_tbl kNsl kSts kCl hck hcd
    unfold chkE at hk
    rw [Bool.and_eq_true] at hk
    obtain ⟨hd0, hk⟩ := hk
    have hd := of_decide_eq_true hd0
    cases ins with
    | new i =>
      dsimp only at hfin hk hd
      split at hfin
      · cases hfin
        obtain rfl := len3 hk
        obtain ⟨h1, h2, h3, h4⟩ := thr_at hM hcd
        rw [h1] at hown
        have hU := hXT.2.2.2.1.1.kept (H1 := s.heap) (fun a h1 h2 => hkp a h1)
        have hN := hXT.2.2.2.1.2.kept (H1 := s.heap) (fun a h1 h2 => hkp a h1)
        have hou : ∀ x ∈ c.exceptionTable.toList, covers x (pc + 7) = false := fun x hx9 => absurd (htab x hx9) id
        rcases h2 with ⟨rfl, rfl, h5⟩ | ⟨rfl, rfl, h5⟩
        · exact vx_throw0 (rest := []) (own := "MeshWaters") (cls := eA) (names := eUp) (ik := 88) (ic := 90) (A := AX Hb) hx hb hl hown (by decide +kernel) (by decide +kernel) (hts _ (wd_in (i := 649) (by decide +kernel))) (hts _ (wd_in (i := 109) (by decide +kernel))) (at0_in at0_A at0_ng hts hXT.2.1.2.1.1 hXT.2.1) (fun w hw => List.all_eq_true.mp at0_oA w hw) hU hN hS hls hd h3 h5 h4 hou (by show 2 + 3 < R.frames; omega) (by show 0 + (13 * (2 + 1) + 42) ≤ R.locals; omega) hRc hRs hlocks hXC hfr hc hs
        · exact vx_throw0 (rest := []) (own := "MeshWaters") (cls := eN) (names := eUp) (ik := 155) (ic := 157) (A := AX Hb) hx hb hl hown (by decide +kernel) (by decide +kernel) (hts _ (wd_in (i := 952) (by decide +kernel))) (hts _ (wd_in (i := 116) (by decide +kernel))) (at0_in at0_N at0_nn hts hXT.2.1.2.1.2 hXT.2.1) (fun w hw => List.all_eq_true.mp at0_oN w hw) hU hN hS hls hd h3 h5 h4 hou (by show 2 + 3 < R.frames; omega) (by show 0 + (13 * (2 + 1) + 42) ≤ R.locals; omega) hRc hRs hlocks hXC hfr hc hs
      · cases hfin
    | ireturn =>
      dsimp only at hfin
      split at hfin
      · split at hfin
        · cases hfin
        · obtain ⟨-, h2⟩ := bif_at hfin
          cases h2
        · cases hfin
      · cases hfin
    | lreturn =>
      dsimp only at hfin
      split at hfin
      · split at hfin
        · cases hfin
        · cases hfin
      · cases hfin
    | return_ =>
      dsimp only at hfin
      split at hfin
      · split at hfin
        · cases hfin
        · cases hfin
      · cases hfin
    | _ => dsimp only at hfin; cases hfin
