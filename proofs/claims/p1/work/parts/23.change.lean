set_option maxRecDepth 100000 in
theorem xp_change : xpair [(0, 7), xfull, xfull, xfull, xfull] 81 210 2 = true := by decide +kernel
