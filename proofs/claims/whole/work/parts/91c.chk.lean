/-! ===== the law, piece by piece: 2 ===== -/
set_option maxRecDepth 100000 in
theorem ckp_281_250 : chkR MT lw_tbl kNsl kSts kCl MI_281 250 250 = true := by decide +kernel
