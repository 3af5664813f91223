/-! ===== each method's table is its bytecode, and its words are the tables' ===== -/
set_option maxRecDepth 100000 in
theorem ck_240 : chkM MT lw_tbl kNsl kSts kCl MI_240 = true := by decide +kernel
set_option maxRecDepth 100000 in
theorem cw_240 : CW lw_tbl MI_240 := by
  refine ⟨fun h => (by rcases h with h | h <;> cases h), fun _ => List.mem_filter.mpr ⟨List.mem_of_getElem? (i := 1231) ?_, ?_⟩⟩
  · rfl
  · rfl
set_option maxRecDepth 100000 in
theorem ck_241 : chkM MT lw_tbl kNsl kSts kCl MI_241 = true := by decide +kernel
set_option maxRecDepth 100000 in
theorem cw_241 : CW lw_tbl MI_241 := by
  refine ⟨fun _ => List.mem_filter.mpr ⟨List.mem_of_getElem? (i := 1915) ?_, ?_⟩, fun h => (by cases h)⟩
  · rfl
  · rfl
set_option maxRecDepth 100000 in
theorem ck_242 : chkM MT lw_tbl kNsl kSts kCl MI_242 = true := by decide +kernel
set_option maxRecDepth 100000 in
theorem cw_242 : CW lw_tbl MI_242 := by
  refine ⟨fun _ => List.mem_filter.mpr ⟨List.mem_of_getElem? (i := 1918) ?_, ?_⟩, fun h => (by cases h)⟩
  · rfl
  · rfl
set_option maxRecDepth 100000 in
theorem ck_243 : chkM MT lw_tbl kNsl kSts kCl MI_243 = true := by decide +kernel
set_option maxRecDepth 100000 in
theorem cw_243 : CW lw_tbl MI_243 := by
  refine ⟨fun _ => List.mem_filter.mpr ⟨List.mem_of_getElem? (i := 1910) ?_, ?_⟩, fun h => (by cases h)⟩
  · rfl
  · rfl
set_option maxRecDepth 100000 in
theorem ck_244 : chkM MT lw_tbl kNsl kSts kCl MI_244 = true := by decide +kernel
set_option maxRecDepth 100000 in
theorem cw_244 : CW lw_tbl MI_244 := by
  refine ⟨fun _ => List.mem_filter.mpr ⟨List.mem_of_getElem? (i := 1251) ?_, ?_⟩, fun h => (by cases h)⟩
  · rfl
  · rfl
set_option maxRecDepth 100000 in
theorem ck_245 : chkM MT lw_tbl kNsl kSts kCl MI_245 = true := by decide +kernel
set_option maxRecDepth 100000 in
theorem cw_245 : CW lw_tbl MI_245 := by
  refine ⟨fun h => (by rcases h with h | h <;> cases h), fun _ => List.mem_filter.mpr ⟨List.mem_of_getElem? (i := 1247) ?_, ?_⟩⟩
  · rfl
  · rfl
set_option maxRecDepth 100000 in
theorem ck_246 : chkM MT lw_tbl kNsl kSts kCl MI_246 = true := by decide +kernel
set_option maxRecDepth 100000 in
theorem cw_246 : CW lw_tbl MI_246 := by
  refine ⟨fun _ => List.mem_filter.mpr ⟨List.mem_of_getElem? (i := 1922) ?_, ?_⟩, fun h => (by cases h)⟩
  · rfl
  · rfl
set_option maxRecDepth 100000 in
theorem ck_247 : chkM MT lw_tbl kNsl kSts kCl MI_247 = true := by decide +kernel
set_option maxRecDepth 100000 in
theorem cw_247 : CW lw_tbl MI_247 := by
  refine ⟨fun _ => List.mem_filter.mpr ⟨List.mem_of_getElem? (i := 1262) ?_, ?_⟩, fun h => (by cases h)⟩
  · rfl
  · rfl
set_option maxRecDepth 100000 in
theorem ck_248 : chkM MT lw_tbl kNsl kSts kCl MI_248 = true := by decide +kernel
set_option maxRecDepth 100000 in
theorem cw_248 : CW lw_tbl MI_248 := by
  refine ⟨fun _ => List.mem_filter.mpr ⟨List.mem_of_getElem? (i := 1258) ?_, ?_⟩, fun h => (by cases h)⟩
  · rfl
  · rfl
set_option maxRecDepth 100000 in
theorem ck_249 : chkM MT lw_tbl kNsl kSts kCl MI_249 = true := by decide +kernel
set_option maxRecDepth 100000 in
theorem cw_249 : CW lw_tbl MI_249 := by
  refine ⟨fun h => (by rcases h with h | h <;> cases h), fun _ => List.mem_filter.mpr ⟨List.mem_of_getElem? (i := 1254) ?_, ?_⟩⟩
  · rfl
  · rfl
set_option maxRecDepth 100000 in
theorem ck_250 : chkM MT lw_tbl kNsl kSts kCl MI_250 = true := by decide +kernel
set_option maxRecDepth 100000 in
theorem cw_250 : CW lw_tbl MI_250 := by
  refine ⟨fun _ => List.mem_filter.mpr ⟨List.mem_of_getElem? (i := 1926) ?_, ?_⟩, fun h => (by cases h)⟩
  · rfl
  · rfl
set_option maxRecDepth 100000 in
theorem ck_251 : chkM MT lw_tbl kNsl kSts kCl MI_251 = true := by decide +kernel
set_option maxRecDepth 100000 in
theorem cw_251 : CW lw_tbl MI_251 := by
  refine ⟨fun _ => List.mem_filter.mpr ⟨List.mem_of_getElem? (i := 619) ?_, ?_⟩, fun h => (by cases h)⟩
  · rfl
  · rfl
set_option maxRecDepth 100000 in
theorem ck_252 : chkM MT lw_tbl kNsl kSts kCl MI_252 = true := by decide +kernel
set_option maxRecDepth 100000 in
theorem cw_252 : CW lw_tbl MI_252 := by
  refine ⟨fun _ => List.mem_filter.mpr ⟨List.mem_of_getElem? (i := 615) ?_, ?_⟩, fun h => (by cases h)⟩
  · rfl
  · rfl
set_option maxRecDepth 100000 in
theorem ck_253 : chkM MT lw_tbl kNsl kSts kCl MI_253 = true := by decide +kernel
set_option maxRecDepth 100000 in
theorem cw_253 : CW lw_tbl MI_253 := by
  refine ⟨fun _ => List.mem_filter.mpr ⟨List.mem_of_getElem? (i := 1930) ?_, ?_⟩, fun h => (by cases h)⟩
  · rfl
  · rfl
set_option maxRecDepth 100000 in
theorem ck_254 : chkM MT lw_tbl kNsl kSts kCl MI_254 = true := by decide +kernel
set_option maxRecDepth 100000 in
theorem cw_254 : CW lw_tbl MI_254 := by
  refine ⟨fun _ => List.mem_filter.mpr ⟨List.mem_of_getElem? (i := 628) ?_, ?_⟩, fun h => (by cases h)⟩
  · rfl
  · rfl
set_option maxRecDepth 100000 in
theorem ck_255 : chkM MT lw_tbl kNsl kSts kCl MI_255 = true := by decide +kernel
set_option maxRecDepth 100000 in
theorem cw_255 : CW lw_tbl MI_255 := by
  refine ⟨fun _ => List.mem_filter.mpr ⟨List.mem_of_getElem? (i := 624) ?_, ?_⟩, fun h => (by cases h)⟩
  · rfl
  · rfl
set_option maxRecDepth 100000 in
theorem ck_256 : chkM MT lw_tbl kNsl kSts kCl MI_256 = true := by decide +kernel
set_option maxRecDepth 100000 in
theorem cw_256 : CW lw_tbl MI_256 := by
  refine ⟨fun _ => List.mem_filter.mpr ⟨List.mem_of_getElem? (i := 1934) ?_, ?_⟩, fun h => (by cases h)⟩
  · rfl
  · rfl
set_option maxRecDepth 100000 in
theorem ck_257 : chkM MT lw_tbl kNsl kSts kCl MI_257 = true := by decide +kernel
set_option maxRecDepth 100000 in
theorem cw_257 : CW lw_tbl MI_257 := by
  refine ⟨fun _ => List.mem_filter.mpr ⟨List.mem_of_getElem? (i := 1273) ?_, ?_⟩, fun h => (by cases h)⟩
  · rfl
  · rfl
set_option maxRecDepth 100000 in
theorem ck_258 : chkM MT lw_tbl kNsl kSts kCl MI_258 = true := by decide +kernel
set_option maxRecDepth 100000 in
theorem cw_258 : CW lw_tbl MI_258 := by
  refine ⟨fun _ => List.mem_filter.mpr ⟨List.mem_of_getElem? (i := 1277) ?_, ?_⟩, fun h => (by cases h)⟩
  · rfl
  · rfl
set_option maxRecDepth 100000 in
theorem ck_259 : chkM MT lw_tbl kNsl kSts kCl MI_259 = true := by decide +kernel
set_option maxRecDepth 100000 in
theorem cw_259 : CW lw_tbl MI_259 := by
  refine ⟨fun _ => List.mem_filter.mpr ⟨List.mem_of_getElem? (i := 1269) ?_, ?_⟩, fun h => (by cases h)⟩
  · rfl
  · rfl
set_option maxRecDepth 100000 in
theorem ck_260 : chkM MT lw_tbl kNsl kSts kCl MI_260 = true := by decide +kernel
set_option maxRecDepth 100000 in
theorem cw_260 : CW lw_tbl MI_260 := by
  refine ⟨fun h => (by rcases h with h | h <;> cases h), fun _ => List.mem_filter.mpr ⟨List.mem_of_getElem? (i := 1265) ?_, ?_⟩⟩
  · rfl
  · rfl
