/-! ===== the law, piece by piece: a half ===== -/
set_option maxRecDepth 100000 in
theorem ckp_281_1750 : chkR MT lw_tbl kNsl kSts kCl MI_281 1750 125 = true := by decide +kernel
