set_option maxRecDepth 100000 in
theorem xp_chance0 : xpair true [xfull, (-2147483648, 19), (-2147483648, 0), (-2147483648, 0), xfull] 88 222 4 = true := by decide +kernel
