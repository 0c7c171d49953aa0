set_option maxRecDepth 100000 in
theorem xp_takes1 : xpair false [(15, 2147483647), xfull, xfull, xfull, xfull] 79 208 1 = true := by decide +kernel
