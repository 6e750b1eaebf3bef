theorem chk_237_0 : (k_237_0).all (fun q => okB 237 q.1 q.2) = true := by decide +kernel
theorem chk_237_1 : (k_237_1).all (fun q => okB 237 q.1 q.2) = true := by decide +kernel
theorem chk_237_2 : (k_237_2).all (fun q => okB 237 q.1 q.2) = true := by decide +kernel
theorem chk_237_3 : (k_237_3).all (fun q => okB 237 q.1 q.2) = true := by decide +kernel
theorem chk_237_4 : (k_237_4).all (fun q => okB 237 q.1 q.2) = true := by decide +kernel
theorem chk_237_5 : (k_237_5).all (fun q => okB 237 q.1 q.2) = true := by decide +kernel
theorem chk_237_6 : (k_237_6).all (fun q => okB 237 q.1 q.2) = true := by decide +kernel
