set_option maxRecDepth 100000 in
theorem xp_change1 : xpair false [(10, 19), xfull, xfull, xfull, xfull] 81 210 2 = true := by decide +kernel
