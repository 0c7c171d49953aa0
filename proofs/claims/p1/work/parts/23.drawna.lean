set_option maxRecDepth 100000 in
theorem xp_drawn0 : xpair false [xfull, xfull, xfull, xfull, xfull] 87 221 2 = true := by decide +kernel
