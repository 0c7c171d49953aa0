set_option maxRecDepth 100000 in
theorem xp_chance0 : xpair [xfull, (-2147483648, 2), xfull, xfull, xfull] 88 222 4 = true := by decide +kernel
