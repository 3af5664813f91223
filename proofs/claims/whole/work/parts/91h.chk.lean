/-! ===== the law, piece by piece: 7 ===== -/
set_option maxRecDepth 100000 in
theorem ckp_281_1500 : chkR MT lw_tbl kNsl kSts kCl MI_281 1500 250 = true := by decide +kernel
