/-! ===== the law, piece by piece: 3 ===== -/
set_option maxRecDepth 100000 in
theorem ckp_281_500 : chkR MT lw_tbl kNsl kSts kCl MI_281 500 250 = true := by decide +kernel
