/-! ===== the law, piece by piece: 9 ===== -/
set_option maxRecDepth 100000 in
theorem ckp_281_2000 : chkR MT lw_tbl kNsl kSts kCl MI_281 2000 250 = true := by decide +kernel
