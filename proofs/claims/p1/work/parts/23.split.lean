set_option maxRecDepth 100000 in
theorem xp_split : xpair xrg0 82 213 2 = true := by decide +kernel
