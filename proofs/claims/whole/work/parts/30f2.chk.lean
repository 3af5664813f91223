/-! ===== the same, second half ===== -/
set_option maxRecDepth 100000 in
theorem ck_261 : chkM MT lw_tbl kNsl kSts kCl MI_261 = true := by decide +kernel
set_option maxRecDepth 100000 in
theorem cw_261 : CW lw_tbl MI_261 := by
  refine ⟨fun _ => List.mem_filter.mpr ⟨List.mem_of_getElem? (i := 1942) ?_, ?_⟩, fun h => (by cases h)⟩
  · rfl
  · rfl
set_option maxRecDepth 100000 in
theorem ck_262 : chkM MT lw_tbl kNsl kSts kCl MI_262 = true := by decide +kernel
set_option maxRecDepth 100000 in
theorem cw_262 : CW lw_tbl MI_262 := by
  refine ⟨fun _ => List.mem_filter.mpr ⟨List.mem_of_getElem? (i := 1938) ?_, ?_⟩, fun h => (by cases h)⟩
  · rfl
  · rfl
set_option maxRecDepth 100000 in
theorem ck_263 : chkM MT lw_tbl kNsl kSts kCl MI_263 = true := by decide +kernel
set_option maxRecDepth 100000 in
theorem cw_263 : CW lw_tbl MI_263 := by
  refine ⟨fun _ => List.mem_filter.mpr ⟨List.mem_of_getElem? (i := 1296) ?_, ?_⟩, fun h => (by cases h)⟩
  · rfl
  · rfl
set_option maxRecDepth 100000 in
theorem ck_264 : chkM MT lw_tbl kNsl kSts kCl MI_264 = true := by decide +kernel
set_option maxRecDepth 100000 in
theorem cw_264 : CW lw_tbl MI_264 := by
  refine ⟨fun _ => List.mem_filter.mpr ⟨List.mem_of_getElem? (i := 1292) ?_, ?_⟩, fun h => (by cases h)⟩
  · rfl
  · rfl
set_option maxRecDepth 100000 in
theorem ck_265 : chkM MT lw_tbl kNsl kSts kCl MI_265 = true := by decide +kernel
set_option maxRecDepth 100000 in
theorem cw_265 : CW lw_tbl MI_265 := by
  refine ⟨fun _ => List.mem_filter.mpr ⟨List.mem_of_getElem? (i := 1288) ?_, ?_⟩, fun h => (by cases h)⟩
  · rfl
  · rfl
set_option maxRecDepth 100000 in
theorem ck_266 : chkM MT lw_tbl kNsl kSts kCl MI_266 = true := by decide +kernel
set_option maxRecDepth 100000 in
theorem cw_266 : CW lw_tbl MI_266 := by
  refine ⟨fun _ => List.mem_filter.mpr ⟨List.mem_of_getElem? (i := 1284) ?_, ?_⟩, fun h => (by cases h)⟩
  · rfl
  · rfl
set_option maxRecDepth 100000 in
theorem ck_267 : chkM MT lw_tbl kNsl kSts kCl MI_267 = true := by decide +kernel
set_option maxRecDepth 100000 in
theorem cw_267 : CW lw_tbl MI_267 := by
  refine ⟨fun h => (by rcases h with h | h <;> cases h), fun _ => List.mem_filter.mpr ⟨List.mem_of_getElem? (i := 1280) ?_, ?_⟩⟩
  · rfl
  · rfl
set_option maxRecDepth 100000 in
theorem ck_268 : chkM MT lw_tbl kNsl kSts kCl MI_268 = true := by decide +kernel
set_option maxRecDepth 100000 in
theorem cw_268 : CW lw_tbl MI_268 := by
  refine ⟨fun _ => List.mem_filter.mpr ⟨List.mem_of_getElem? (i := 1954) ?_, ?_⟩, fun h => (by cases h)⟩
  · rfl
  · rfl
set_option maxRecDepth 100000 in
theorem ck_269 : chkM MT lw_tbl kNsl kSts kCl MI_269 = true := by decide +kernel
set_option maxRecDepth 100000 in
theorem cw_269 : CW lw_tbl MI_269 := by
  refine ⟨fun _ => List.mem_filter.mpr ⟨List.mem_of_getElem? (i := 1950) ?_, ?_⟩, fun h => (by cases h)⟩
  · rfl
  · rfl
set_option maxRecDepth 100000 in
theorem ck_270 : chkM MT lw_tbl kNsl kSts kCl MI_270 = true := by decide +kernel
set_option maxRecDepth 100000 in
theorem cw_270 : CW lw_tbl MI_270 := by
  refine ⟨fun _ => List.mem_filter.mpr ⟨List.mem_of_getElem? (i := 1946) ?_, ?_⟩, fun h => (by cases h)⟩
  · rfl
  · rfl
