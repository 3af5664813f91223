/-! ===== the same, third piece ===== -/
set_option maxRecDepth 100000 in
theorem ck_271 : chkM MT lw_tbl kNsl kSts kCl MI_271 = true := by decide +kernel
set_option maxRecDepth 100000 in
theorem cw_271 : CW lw_tbl MI_271 := by
  refine ⟨fun _ => List.mem_filter.mpr ⟨List.mem_of_getElem? (i := 1303) ?_, ?_⟩, fun h => (by cases h)⟩
  · rfl
  · rfl
set_option maxRecDepth 100000 in
theorem ck_272 : chkM MT lw_tbl kNsl kSts kCl MI_272 = true := by decide +kernel
set_option maxRecDepth 100000 in
theorem cw_272 : CW lw_tbl MI_272 := by
  refine ⟨fun h => (by rcases h with h | h <;> cases h), fun _ => List.mem_filter.mpr ⟨List.mem_of_getElem? (i := 1299) ?_, ?_⟩⟩
  · rfl
  · rfl
set_option maxRecDepth 100000 in
theorem ck_273 : chkM MT lw_tbl kNsl kSts kCl MI_273 = true := by decide +kernel
set_option maxRecDepth 100000 in
theorem cw_273 : CW lw_tbl MI_273 := by
  refine ⟨fun _ => List.mem_filter.mpr ⟨List.mem_of_getElem? (i := 1958) ?_, ?_⟩, fun h => (by cases h)⟩
  · rfl
  · rfl
set_option maxRecDepth 100000 in
theorem ck_274 : chkM MT lw_tbl kNsl kSts kCl MI_274 = true := by decide +kernel
set_option maxRecDepth 100000 in
theorem cw_274 : CW lw_tbl MI_274 := by
  refine ⟨fun _ => List.mem_filter.mpr ⟨List.mem_of_getElem? (i := 636) ?_, ?_⟩, fun h => (by cases h)⟩
  · rfl
  · rfl
set_option maxRecDepth 100000 in
theorem ck_275 : chkM MT lw_tbl kNsl kSts kCl MI_275 = true := by decide +kernel
set_option maxRecDepth 100000 in
theorem cw_275 : CW lw_tbl MI_275 := by
  refine ⟨fun _ => List.mem_filter.mpr ⟨List.mem_of_getElem? (i := 632) ?_, ?_⟩, fun h => (by cases h)⟩
  · rfl
  · rfl
