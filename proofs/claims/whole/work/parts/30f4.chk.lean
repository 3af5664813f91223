/-! ===== the same, last piece ===== -/
set_option maxRecDepth 100000 in
theorem ck_276 : chkM MT lw_tbl kNsl kSts kCl MI_276 = true := by decide +kernel
set_option maxRecDepth 100000 in
theorem cw_276 : CW lw_tbl MI_276 := by
  refine ⟨fun _ => List.mem_filter.mpr ⟨List.mem_of_getElem? (i := 1968) ?_, ?_⟩, fun h => (by cases h)⟩
  · rfl
  · rfl
set_option maxRecDepth 100000 in
theorem ck_277 : chkM MT lw_tbl kNsl kSts kCl MI_277 = true := by decide +kernel
set_option maxRecDepth 100000 in
theorem cw_277 : CW lw_tbl MI_277 := by
  refine ⟨fun _ => List.mem_filter.mpr ⟨List.mem_of_getElem? (i := 1971) ?_, ?_⟩, fun h => (by cases h)⟩
  · rfl
  · rfl
set_option maxRecDepth 100000 in
theorem ck_278 : chkM MT lw_tbl kNsl kSts kCl MI_278 = true := by decide +kernel
set_option maxRecDepth 100000 in
theorem cw_278 : CW lw_tbl MI_278 := by
  refine ⟨fun _ => List.mem_filter.mpr ⟨List.mem_of_getElem? (i := 1965) ?_, ?_⟩, fun h => (by cases h)⟩
  · rfl
  · rfl
set_option maxRecDepth 100000 in
theorem ck_279 : chkM MT lw_tbl kNsl kSts kCl MI_279 = true := by decide +kernel
set_option maxRecDepth 100000 in
theorem cw_279 : CW lw_tbl MI_279 := by
  refine ⟨fun _ => List.mem_filter.mpr ⟨List.mem_of_getElem? (i := 640) ?_, ?_⟩, fun h => (by cases h)⟩
  · rfl
  · rfl
set_option maxRecDepth 100000 in
theorem ck_280 : chkM MT lw_tbl kNsl kSts kCl MI_280 = true := by decide +kernel
set_option maxRecDepth 100000 in
theorem cw_280 : CW lw_tbl MI_280 := by
  refine ⟨fun _ => List.mem_filter.mpr ⟨List.mem_of_getElem? (i := 1975) ?_, ?_⟩, fun h => (by cases h)⟩
  · rfl
  · rfl
theorem cky_281 : chkY lw_tbl kCl MI_281 = true := by decide +kernel
set_option maxRecDepth 100000 in
theorem ckp_281_0 : chkR MT lw_tbl kNsl kSts kCl MI_281 0 250 = true := by decide +kernel
set_option maxRecDepth 100000 in
theorem ckp_281_250 : chkR MT lw_tbl kNsl kSts kCl MI_281 250 250 = true := by decide +kernel
set_option maxRecDepth 100000 in
theorem ckp_281_500 : chkR MT lw_tbl kNsl kSts kCl MI_281 500 250 = true := by decide +kernel
set_option maxRecDepth 100000 in
theorem ckp_281_750 : chkR MT lw_tbl kNsl kSts kCl MI_281 750 250 = true := by decide +kernel
set_option maxRecDepth 100000 in
theorem ckp_281_1000 : chkR MT lw_tbl kNsl kSts kCl MI_281 1000 250 = true := by decide +kernel
set_option maxRecDepth 100000 in
theorem ckp_281_1250 : chkR MT lw_tbl kNsl kSts kCl MI_281 1250 250 = true := by decide +kernel
set_option maxRecDepth 100000 in
theorem ckp_281_1500 : chkR MT lw_tbl kNsl kSts kCl MI_281 1500 250 = true := by decide +kernel
set_option maxRecDepth 100000 in
theorem ckp_281_1750 : chkR MT lw_tbl kNsl kSts kCl MI_281 1750 250 = true := by decide +kernel
set_option maxRecDepth 100000 in
theorem ckp_281_2000 : chkR MT lw_tbl kNsl kSts kCl MI_281 2000 250 = true := by decide +kernel
set_option maxRecDepth 100000 in
theorem ckp_281_2250 : chkR MT lw_tbl kNsl kSts kCl MI_281 2250 250 = true := by decide +kernel
set_option maxRecDepth 100000 in
theorem ckp_281_2500 : chkR MT lw_tbl kNsl kSts kCl MI_281 2500 250 = true := by decide +kernel
theorem ck_281 : chkM MT lw_tbl kNsl kSts kCl MI_281 = true := by
  refine chkM_of cky_281 (fun pc hpc => ?_)
  have hpc : pc < 2545 := hpc
  by_cases h0 : pc < 250
  · exact chkR_at ckp_281_0 (by omega) (by omega)
  by_cases h250 : pc < 500
  · exact chkR_at ckp_281_250 (by omega) (by omega)
  by_cases h500 : pc < 750
  · exact chkR_at ckp_281_500 (by omega) (by omega)
  by_cases h750 : pc < 1000
  · exact chkR_at ckp_281_750 (by omega) (by omega)
  by_cases h1000 : pc < 1250
  · exact chkR_at ckp_281_1000 (by omega) (by omega)
  by_cases h1250 : pc < 1500
  · exact chkR_at ckp_281_1250 (by omega) (by omega)
  by_cases h1500 : pc < 1750
  · exact chkR_at ckp_281_1500 (by omega) (by omega)
  by_cases h1750 : pc < 2000
  · exact chkR_at ckp_281_1750 (by omega) (by omega)
  by_cases h2000 : pc < 2250
  · exact chkR_at ckp_281_2000 (by omega) (by omega)
  by_cases h2250 : pc < 2500
  · exact chkR_at ckp_281_2250 (by omega) (by omega)
  by_cases h2500 : pc < 2750
  · exact chkR_at ckp_281_2500 (by omega) (by omega)
  omega
theorem cw_281 : CW lw_tbl MI_281 := ⟨fun h => (by rcases h with h | h <;> cases h), fun h => (by cases h)⟩
