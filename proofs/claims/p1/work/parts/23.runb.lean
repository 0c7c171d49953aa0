set_option maxRecDepth 100000 in
theorem xp_run1 : xpair false [(7, 13), xfull, xfull, xfull, xfull] 78 206 2 = true := by decide +kernel
