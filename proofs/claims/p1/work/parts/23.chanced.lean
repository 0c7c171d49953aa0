set_option maxRecDepth 100000 in
theorem xp_chance3 : xpair true [xfull, (-2147483648, 19), (1, 27), (1, 2147483647), xfull] 88 222 4 = true := by decide +kernel
