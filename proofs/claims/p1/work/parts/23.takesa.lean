set_option maxRecDepth 100000 in
theorem xp_takes0 : xpair false [(-2147483648, 14), xfull, xfull, xfull, xfull] 79 208 1 = true := by decide +kernel
