set_option maxRecDepth 100000 in
theorem xp_change2 : xpair false [(20, 2147483647), xfull, xfull, xfull, xfull] 81 210 2 = true := by decide +kernel
