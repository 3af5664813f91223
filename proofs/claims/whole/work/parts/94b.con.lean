/-! ===== the pond's rows ===== -/
theorem arrV_ext {c : ClassId} {n : Nat} {f f' : Nat → Value} (h : ∀ j, j < n → f j = f' j) : arrV c n f = arrV c n f' := by
  unfold arrV
  congr 1
  apply Array.ext
  · simp
  · intro i h1 h2
    simp only [Array.getElem_ofFn]
    exact h i (by simpa using h1)
/-- a row of cells is what it holds below its length -/
theorem va_P_q {D : va_G} {cl : List vw_C} {ws : va_W} {H : Heap} {i a n : Nat} {c : ClassId} {f f' : Nat → Option Nat} (hP : va_P D cl ws H) (h : ws[i]? = some (a, .inl (c, n, .inr (.inr (.inr (.inr f)))))) (hf : ∀ j, j < n → f j = f' j) : va_P D cl (ws.set i (a, .inl (c, n, .inr (.inr (.inr (.inr f')))))) H := by
  intro k q hk
  rw [List.getElem?_set] at hk
  by_cases e : i = k
  · subst e
    rw [if_pos rfl, if_pos (List.getElem?_eq_some_iff.mp h).1] at hk
    cases hk
    have h1 : H[a]? = some (vp_cell c (n, .inr (.inr (.inr (.inr f))))) := hP i _ h
    show H[a]? = some (vp_cell c (n, .inr (.inr (.inr (.inr f')))))
    rw [h1, vp_cell_q, vp_cell_q, arrV_ext (fun j hj => by rw [hf j hj])]
  · rw [if_neg e] at hk
    exact hP k q hk
theorem va_D_q {A : Nat → Prop} {ws : va_W} {i a : Nat} {e e' : va_E} (hD : va_D A ws) (h : ws[i]? = some (a, e)) : va_D A (ws.set i (a, e')) := hD.set h
section Con2
variable {p : Program} {l : Launch} {e : Env} {R : Room} {s : State} {m : MethodId} {args : Array Value} {below : List Frame} {meth : Method} {c : Code} {H : Heap} {locs : List Loc} {cells slots : Nat} {Q : State → Prop}
variable {cc : ByteArray} {ls : Array Slot} {rest : List Value} {D : va_G} {A : Nat → Prop} {cT : List (ClassId × FieldType)} {own : String} {h0 ci N : Nat} {T : u_T} {fs : List Value}
theorem C_mn (hC : CX p s m args meth c cc ls D cT A own h0 ci N T) (hAO : CN s) (hcT : cT.map Prod.snd = [.int, .boolean, .long, .array .int, .object "java/lang/String"]) (pc l1 l2 : Nat) {idx idx2 k i i1 i2 : Nat} {nm : String} {fin : Bool} (d0 : decode cc pc = .ok (.aload_n 0, 1)) (d1 : PU cc (pc + 1) l1 32) (d2 : PU cc (pc + 1 + l1) l2 60) (d3 : decode cc (pc + 1 + l1 + l2) = .ok (.multianewarray idx 2, 4)) (d4 : decode cc (pc + 1 + l1 + l2 + 4) = .ok (.putfield idx2, 3))
    (w1 : wd lw_tbl i1 (.classLink own idx ("[" ++ (FieldType.array .int).toString)) = true) (w2 : wd lw_tbl i2 (.arrayClass .int) = true) (hk : k < N) (hT : T k = (own, nm, "[[I", fin)) (hw : wd lw_tbl i (.fieldLink own idx2 own nm "[[I") = true) (hl : fs.length = N) (hce : cells + (1 + 32) ≤ R.cells) (hsl : slots + (32 + 32 * 60) ≤ R.slots)
    (hP : va_P D kCl [(h0, .inr (ci, fs))] H) (hD : va_D A [(h0, .inr (ci, fs))]) (hS : va_S A s.heap H locs)
    (kk : ∀ (q : Nat) (r : Nat → Nat), (fs.set k (.ref q)).length = N → ∀ (H1 : Heap) (locs1 : List Loc), va_P D kCl ((h0, .inr (ci, fs.set k (.ref q))) :: (q, .inl (cid cT 3, 32, .inr (.inr (.inr (.inr (fun j => some (r j))))))) :: (List.range 32).map (fun j => (r j, .inl (cid cT 0, 60, .inl fun _ => 0)))) H1 →
      va_D A ((h0, .inr (ci, fs.set k (.ref q))) :: (q, .inl (cid cT 3, 32, .inr (.inr (.inr (.inr (fun j => some (r j))))))) :: (List.range 32).map (fun j => (r j, .inl (cid cT 0, 60, .inl fun _ => 0)))) → va_S A s.heap H1 locs1 →
      W p l e R s m args below meth c H1 locs1 (cells + 1 + 32) (slots + 32 + 32 * 60) Q (F0 m (pc + 1 + l1 + l2 + 4 + 3) ls [])) :
    W p l e R s m args below meth c H locs cells slots Q (F0 m pc ls []) := by
  have hC0 := hC
  obtain ⟨hx, hb, hown, hts, hin, hK, hl0, hc, hA, hml⟩ := hC
  refine lv_aload_n (i := 0) hx hb d0 rfl hl0 ?_
  refine PU.go hx hb d1 (PU.go hx hb d2 ?_)
  have hcy : s.vm.findClass (FieldType.array .int).toString = some (cid cT 0) := (hK.2 0 _ (hy_ty hcT rfl)).2
  refine va_mna (X := [(h0, .inr (ci, fs))]) (L := []) (f := fun _ => .inr (0, [])) (ty := .int) (N' := 32) (K' := 60) (z := (60, .inl fun _ => 0)) hx hb hown (hts _ (wd_in w1)) hAO.1 (hts _ (wd_in w2)) hcy hK hP hD hS hA (by decide) (by decide) (by decide +kernel) (by decide +kernel) (Nat.le_of_ble_eq_true rfl) (Nat.le_of_ble_eq_true rfl) (Nat.le_of_ble_eq_true rfl) rfl rfl hce hsl (fun c => arrV_new c 60 _) d3 (fun q r cA H1 hri hrL hK1 hP1 hD1 hS1 => ?_)
  obtain rfl := cT_one (t := 3) hK1 (hy_ty hcT rfl) (fun C h => by cases h)
  have hpl : va_pl ([] ++ (List.range 32).map r) (vr_up (fun _ => .inr (0, [])) ((List.range 32).map r) (.inl (cid cT 0, 60, .inl fun _ => 0))) = (List.range 32).map (fun j => (r j, .inl (cid cT 0, 60, .inl fun _ => 0))) := by
    unfold va_pl
    rw [List.nil_append, List.map_map]
    apply List.map_congr_left
    intro j hj
    exact congrArg (fun x => (r j, x)) (vr_up_in (List.mem_map.mpr ⟨j, hj, rfl⟩))
  rw [hpl] at hP1 hD1
  have hP2 := va_P_q (i := 1) (f' := fun j => some (r j)) hP1 rfl (fun j hj => if_pos hj)
  have hD2 := va_D_q (i := 1) (e' := .inl (cid cT 3, 32, .inr (.inr (.inr (.inr (fun j => some (r j))))))) hD1 rfl
  exact C_put (v := .ref q) (ws := (q, .inl (cid cT 3, 32, .inr (.inr (.inr (.inr (fun j => some (r j))))))) :: (List.range 32).map (fun j => (r j, .inl (cid cT 0, 60, .inl fun _ => 0)))) hC0 hk hT hw (ty := .array (.array .int)) (by decide +kernel) rfl rfl (hl ▸ hk) d4 hP2 hD2 hS1 (fun H2 locs2 hP3 hD3 hS3 => kk q r (by rw [List.length_set]; exact hl) H2 locs2 hP3 hD3 hS3)
end Con2
