/-! ===== the law, piece by piece: 11 ===== -/
set_option maxRecDepth 100000 in
theorem ckp_281_2500 : chkR MT lw_tbl kNsl kSts kCl MI_281 2500 250 = true := by decide +kernel
theorem ck_281 : chkM MT lw_tbl kNsl kSts kCl MI_281 = true := by
  refine chkM_of cky_281 (fun pc hpc => ?_)
  have hpc : pc < 2545 := hpc
  by_cases h0 : pc < 250
  · exact chkR_at ckp_281_0 (by omega) (by omega)
  by_cases h250 : pc < 500
  · exact chkR_at ckp_281_250 (by omega) (by omega)
  by_cases h500 : pc < 750
  · exact chkR_at ckp_281_500 (by omega) (by omega)
  by_cases h750 : pc < 1000
  · exact chkR_at ckp_281_750 (by omega) (by omega)
  by_cases h1000 : pc < 1250
  · exact chkR_at ckp_281_1000 (by omega) (by omega)
  by_cases h1250 : pc < 1375
  · exact chkR_at ckp_281_1250 (by omega) (by omega)
  by_cases h1375 : pc < 1500
  · exact chkR_at ckp_281_1375 (by omega) (by omega)
  by_cases h1500 : pc < 1625
  · exact chkR_at ckp_281_1500 (by omega) (by omega)
  by_cases h1625 : pc < 1750
  · exact chkR_at ckp_281_1625 (by omega) (by omega)
  by_cases h1750 : pc < 1875
  · exact chkR_at ckp_281_1750 (by omega) (by omega)
  by_cases h1875 : pc < 2000
  · exact chkR_at ckp_281_1875 (by omega) (by omega)
  by_cases h2000 : pc < 2125
  · exact chkR_at ckp_281_2000 (by omega) (by omega)
  by_cases h2125 : pc < 2250
  · exact chkR_at ckp_281_2125 (by omega) (by omega)
  by_cases h2250 : pc < 2375
  · exact chkR_at ckp_281_2250 (by omega) (by omega)
  by_cases h2375 : pc < 2500
  · exact chkR_at ckp_281_2375 (by omega) (by omega)
  by_cases h2500 : pc < 2750
  · exact chkR_at ckp_281_2500 (by omega) (by omega)
  omega
theorem cw_281 : CW lw_tbl MI_281 := ⟨fun h => (by rcases h with h | h <;> cases h), fun h => (by cases h)⟩
