theorem ckT1 : (List.range 8).all (fun i => mCk i) = true := by decide +kernel
