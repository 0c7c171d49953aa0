set_option maxRecDepth 100000 in
theorem xp_chance8 : xpair true [xfull, (20, 2147483647), (1, 27), (-2147483648, 0), xfull] 88 222 4 = true := by decide +kernel
