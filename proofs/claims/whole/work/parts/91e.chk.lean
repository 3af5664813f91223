/-! ===== the law, piece by piece: 4 ===== -/
set_option maxRecDepth 100000 in
theorem ckp_281_750 : chkR MT lw_tbl kNsl kSts kCl MI_281 750 250 = true := by decide +kernel
