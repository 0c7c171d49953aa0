set_option maxRecDepth 100000 in
theorem xp_change0 : xpair false [(-2147483648, 9), xfull, xfull, xfull, xfull] 81 210 2 = true := by decide +kernel
