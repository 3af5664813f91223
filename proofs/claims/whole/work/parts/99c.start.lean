/-! ===== the law ===== -/
theorem mem_281 : MI_281 ∈ MT := List.mem_of_getElem? (i := 281) rfl
theorem whole_start {p : Program} {e : Env} {s : State} {m : MethodId} {below : List Frame} {meth : Method} {c : Code} (l : Launch) (hflags : l.flags = flags0) {b L : Nat} {xs : Nat → Int32} (hL : L ≤ 3072) (C0 : lw_At p s m meth c b L xs) : W p l e room_1 s m #[Value.ref b] below meth c s.heap [] 0 0 (lw_Z below #[Value.ref b] s) (entryFrame m ([Value.ref b] : List Value).toArray 8) := by
  obtain ⟨hx, hb, hr, hml, hown, hts, hX, hbl, hlocks, hgv⟩ := C0
  have hts' : ∀ w ∈ lw_tbl.filter goodWord, w.before #[Value.ref b] s = true := fun w hw => hts w (List.mem_filter.mp hw).1
  obtain ⟨cT, hcT, hKt⟩ := kT0 hts
  obtain ⟨D, hKd⟩ := kD0 hts
  have hK : va_K D kCl cT s := ⟨hKd, hKt⟩
  obtain ⟨tad, adV, hTX, hTC, hXT⟩ := kXT0 hts hgv hX
  refine enter hx hb hml hown hts' hcT hK (kCN0 hts) (va_AO.of (hts _ (List.mem_of_getElem? (i := 1314) (by decide +kernel)))) hTX hTC ?_
  intro ad H1 locs1 ls had hab hP hD hS hl cells slots hce hsl
  obtain ⟨hinj, hlo⟩ := ad_inj hD
  have hxt := hXT ad had hab
  have hHY : HY kSh (L, xs, kTx) kPos kCl cT ad s.heap (kXT ad adV L xs s.heap) := kHY hinj hlo hcT ⟨by rw [hab]; exact hbl, fun U hU => hU.2.2.1⟩ (by show L < 2 ^ 31; omega)
  obtain ⟨S', M', O', hEX⟩ := law_0 (nL := L) (xs := xs) hL
  obtain ⟨n, k, hk, hex⟩ := hEX
  have hB := SND (l := l) (D := D) hHY kCk kCw kCY kTY kXT_w kNS (kTHR (traces_off hflags)) kHDL (kBLT rfl) kMth n
  refine hB 98 MI_281 23 _ [] (kS0, kM0, kO0) (S', M', O') _ k hex mem_281 p e room_1 s m #[Value.ref b] below meth c hx hb hml hown hts' ⟨Nat.le_refl _, fun q _ => rfl⟩ (fun h => absurd rfl h) (Nat.le_of_ble_eq_true rfl) (Nat.le_of_ble_eq_true rfl) H1 locs1 cells slots ls _ (by show cells + k ≤ 601024; omega) (by show slots + 6 * k ≤ 7293034; omega) ⟨hP, hK, hS.1, fun q hq => hS.2.1 q hq (fun h => absurd (show s.heap.size ≤ q from h) (by omega)), hxt⟩ hS hl ?_
  intro pc' st' H2 locs2 cells2 slots2 ls2 hfin _ hW2 hS2 hsz2 hc2 hs2
  have hc2 : cells2 = cells + k := by simpa [tk] using hc2
  have hs2 : slots2 = slots + 6 * k := by simpa [tk] using hs2
  rcases ifin_at (kCk MI_281 mem_281) hfin with ⟨x, rfl, hx1, h1, h2⟩ | ⟨x, rfl, hx1, h1, -, h2⟩ | ⟨x, rfl, hx1, h1, h2⟩ | ⟨rfl, hx1, h1, h2⟩
  · cases h1
  · cases hx1
    exact va_forget hS2.2.2 (W.widen (k := 601024) (n := 7293034) (by omega) (by omega) (lw_ret hx hb hr hlocks h2))
  · cases hx1
  · cases hx1
