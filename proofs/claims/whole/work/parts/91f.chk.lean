/-! ===== the law, piece by piece: 5 ===== -/
set_option maxRecDepth 100000 in
theorem ckp_281_1000 : chkR MT lw_tbl kNsl kSts kCl MI_281 1000 250 = true := by decide +kernel
