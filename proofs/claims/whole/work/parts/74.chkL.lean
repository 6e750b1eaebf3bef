theorem chk_237_7 : (k_237_7).all (fun q => okB 237 q.1 q.2) = true := by decide +kernel
theorem chk_237_8 : (k_237_8).all (fun q => okB 237 q.1 q.2) = true := by decide +kernel
theorem chk_237_9 : (k_237_9).all (fun q => okB 237 q.1 q.2) = true := by decide +kernel
theorem chk_237_10 : (k_237_10).all (fun q => okB 237 q.1 q.2) = true := by decide +kernel
theorem chk_237_11 : (k_237_11).all (fun q => okB 237 q.1 q.2) = true := by decide +kernel
theorem chk_237_12 : (k_237_12).all (fun q => okB 237 q.1 q.2) = true := by decide +kernel
theorem chk_237_13 : (k_237_13).all (fun q => okB 237 q.1 q.2) = true := by decide +kernel
