set_option maxRecDepth 100000 in
theorem xp_chance3 : xpair true [xfull, xfull, (1, 2147483647), (1, 2147483647), xfull] 88 222 4 = true := by decide +kernel
