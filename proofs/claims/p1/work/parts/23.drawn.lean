set_option maxRecDepth 100000 in
theorem xp_drawn : xpair xrg0 87 221 2 = true := by decide +kernel
