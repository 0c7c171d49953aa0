set_option maxRecDepth 100000 in
theorem xp_run2 : xpair false [(14, 20), xfull, xfull, xfull, xfull] 78 206 2 = true := by decide +kernel
