set_option maxRecDepth 100000 in
theorem xp_takes : xpair xrg0 79 208 1 = true := by decide +kernel
