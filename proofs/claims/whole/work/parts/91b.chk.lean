/-! ===== the law, piece by piece ===== -/
set_option maxRecDepth 100000 in
theorem ckp_281_0 : chkR MT lw_tbl kNsl kSts kCl MI_281 0 250 = true := by decide +kernel
