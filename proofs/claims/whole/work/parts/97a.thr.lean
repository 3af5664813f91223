/-! ===== the throw sites ===== -/
theorem at0_ng : ((vx_at0 "MeshWaters" 90 eA eUp).filter (fun w => !goodWord w)).all (fun w => decide (w ∈ [Cond.castable eA eA, .declares ⟨"java/lang/RuntimeException", "<init>", "()V"⟩, .declares ⟨"java/lang/Exception", "<init>", "()V"⟩, .declares ⟨"java/lang/Throwable", "<init>", "()V"⟩])) = true := by decide +kernel
theorem at0_nn : ((vx_at0 "MeshWaters" 157 eN eUp).filter (fun w => !goodWord w)).all (fun w => decide (w ∈ [Cond.castable eN eN, .declares ⟨"java/lang/RuntimeException", "<init>", "()V"⟩, .declares ⟨"java/lang/Exception", "<init>", "()V"⟩, .declares ⟨"java/lang/Throwable", "<init>", "()V"⟩])) = true := by decide +kernel
theorem at0_A : ((vx_at0 "MeshWaters" 90 eA eUp).filter goodWord).all (fun w => lw_tbl.any (fun v => decide (v = w))) = true := by decide +kernel
theorem at0_N : ((vx_at0 "MeshWaters" 157 eN eUp).filter goodWord).all (fun w => lw_tbl.any (fun v => decide (v = w))) = true := by decide +kernel
theorem at0_oA : (Cond.classLink "MeshWaters" 88 eA :: Cond.initialized eA :: vx_at0 "MeshWaters" 90 eA eUp).all vx_ot = true := by decide +kernel
theorem at0_oN : (Cond.classLink "MeshWaters" 155 eN :: Cond.initialized eN :: vx_at0 "MeshWaters" 157 eN eUp).all vx_ot = true := by decide +kernel
theorem at0_in {L : List Cond} {s : State} {args : Array Value} {X : String} (h1 : (L.filter goodWord).all (fun w => lw_tbl.any (fun v => decide (v = w))) = true) (h2 : (L.filter (fun w => !goodWord w)).all (fun w => decide (w ∈ [Cond.castable X X, .declares ⟨"java/lang/RuntimeException", "<init>", "()V"⟩, .declares ⟨"java/lang/Exception", "<init>", "()V"⟩, .declares ⟨"java/lang/Throwable", "<init>", "()V"⟩])) = true)
    (hts : ∀ w ∈ lw_tbl.filter goodWord, w.before args s = true) (hc : va_Nw (.castable X X) s) (hn : kNw s) : ∀ w ∈ L, w.before args s = true := by
  refine vx_hat (B := [Cond.castable X X, .declares ⟨"java/lang/RuntimeException", "<init>", "()V"⟩, .declares ⟨"java/lang/Exception", "<init>", "()V"⟩, .declares ⟨"java/lang/Throwable", "<init>", "()V"⟩]) (fun w hw => ?_) (fun w hw => of_decide_eq_true (List.all_eq_true.mp h2 w hw)) ?_
  · obtain ⟨v, hv, e⟩ := List.any_eq_true.mp (List.all_eq_true.mp h1 w hw)
    have e2 : v = w := of_decide_eq_true e
    subst e2
    exact hts v (List.mem_filter.mpr ⟨hv, (List.mem_filter.mp hw).2⟩)
  · exact vx_c (va_Nw.use rfl hc) (vx_c (va_Nw.use rfl hn.2.2.1.1) (vx_c (va_Nw.use rfl hn.2.2.1.2.1) (vx_c (va_Nw.use rfl hn.2.2.1.2.2) vx_n)))
theorem traces_off {l : Launch} (h : l.flags = flags0) : l.stackTraces = false := by
  unfold Launch.stackTraces
  rw [h]
  decide +kernel
