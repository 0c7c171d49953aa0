set_option maxRecDepth 100000 in
theorem xp_chance9 : xpair true [xfull, (20, 2147483647), (1, 27), (1, 2147483647), xfull] 88 222 4 = true := by decide +kernel
