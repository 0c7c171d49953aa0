set_option maxRecDepth 100000 in
theorem xC0_ok : xmade (xexec xK 13 65 [.ref 0] [(6, [.null, .null, .null, .int 0, .null, .null, .null, .int 0, .null, .null])] []) xC0 = true := by decide +kernel
