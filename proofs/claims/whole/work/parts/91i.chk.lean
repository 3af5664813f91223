/-! ===== the law, piece by piece: 8 ===== -/
set_option maxRecDepth 100000 in
theorem ckp_281_1750 : chkR MT lw_tbl kNsl kSts kCl MI_281 1750 250 = true := by decide +kernel
