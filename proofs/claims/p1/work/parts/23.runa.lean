set_option maxRecDepth 100000 in
theorem xp_run0 : xpair false [(-2147483648, 6), xfull, xfull, xfull, xfull] 78 206 2 = true := by decide +kernel
