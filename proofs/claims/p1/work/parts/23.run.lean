set_option maxRecDepth 100000 in
theorem xp_run : xpair xrg0 78 206 2 = true := by decide +kernel
