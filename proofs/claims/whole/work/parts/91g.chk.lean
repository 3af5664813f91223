/-! ===== the law, piece by piece: a half ===== -/
set_option maxRecDepth 100000 in
theorem ckp_281_1250 : chkR MT lw_tbl kNsl kSts kCl MI_281 1250 125 = true := by decide +kernel
