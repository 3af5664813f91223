/-! ===== the same, last piece ===== -/
set_option maxRecDepth 100000 in
theorem ck_276 : chkM MT lw_tbl kNsl kSts kCl MI_276 = true := by decide +kernel
set_option maxRecDepth 100000 in
theorem cw_276 : CW lw_tbl MI_276 := by
  refine ⟨fun _ => List.mem_filter.mpr ⟨List.mem_of_getElem? (i := 1968) ?_, ?_⟩, fun h => (by cases h)⟩
  · rfl
  · rfl
set_option maxRecDepth 100000 in
theorem ck_277 : chkM MT lw_tbl kNsl kSts kCl MI_277 = true := by decide +kernel
set_option maxRecDepth 100000 in
theorem cw_277 : CW lw_tbl MI_277 := by
  refine ⟨fun _ => List.mem_filter.mpr ⟨List.mem_of_getElem? (i := 1971) ?_, ?_⟩, fun h => (by cases h)⟩
  · rfl
  · rfl
set_option maxRecDepth 100000 in
theorem ck_278 : chkM MT lw_tbl kNsl kSts kCl MI_278 = true := by decide +kernel
set_option maxRecDepth 100000 in
theorem cw_278 : CW lw_tbl MI_278 := by
  refine ⟨fun _ => List.mem_filter.mpr ⟨List.mem_of_getElem? (i := 1965) ?_, ?_⟩, fun h => (by cases h)⟩
  · rfl
  · rfl
set_option maxRecDepth 100000 in
theorem ck_279 : chkM MT lw_tbl kNsl kSts kCl MI_279 = true := by decide +kernel
set_option maxRecDepth 100000 in
theorem cw_279 : CW lw_tbl MI_279 := by
  refine ⟨fun _ => List.mem_filter.mpr ⟨List.mem_of_getElem? (i := 640) ?_, ?_⟩, fun h => (by cases h)⟩
  · rfl
  · rfl
set_option maxRecDepth 100000 in
theorem ck_280 : chkM MT lw_tbl kNsl kSts kCl MI_280 = true := by decide +kernel
set_option maxRecDepth 100000 in
theorem cw_280 : CW lw_tbl MI_280 := by
  refine ⟨fun _ => List.mem_filter.mpr ⟨List.mem_of_getElem? (i := 1975) ?_, ?_⟩, fun h => (by cases h)⟩
  · rfl
  · rfl
theorem cky_281 : chkY lw_tbl kCl MI_281 = true := by decide +kernel
