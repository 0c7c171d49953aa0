set_option maxRecDepth 100000 in
theorem xp_split0 : xpair false [xfull, xfull, xfull, xfull, xfull] 82 213 2 = true := by decide +kernel
