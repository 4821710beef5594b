set_option maxRecDepth 40000 in
theorem zv_248 : (z_bls 248).all (fun q => z_seqB 248 q.1 q.2) = true := by decide +kernel
