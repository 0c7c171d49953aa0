set_option maxRecDepth 100000 in
theorem xp_run3 : xpair false [(21, 2147483647), xfull, xfull, xfull, xfull] 78 206 2 = true := by decide +kernel
