set_option maxRecDepth 100000 in
theorem xp_change : xpair xrg0 81 210 2 = true := by decide +kernel
