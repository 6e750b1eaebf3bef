theorem chk_237_14 : (k_237_14).all (fun q => okB 237 q.1 q.2) = true := by decide +kernel
theorem chk_237_15 : (k_237_15).all (fun q => okB 237 q.1 q.2) = true := by decide +kernel
theorem chk_237_16 : (k_237_16).all (fun q => okB 237 q.1 q.2) = true := by decide +kernel
theorem chk_237_17 : (k_237_17).all (fun q => okB 237 q.1 q.2) = true := by decide +kernel
theorem chk_237_18 : (k_237_18).all (fun q => okB 237 q.1 q.2) = true := by decide +kernel
theorem chk_237_19 : (k_237_19).all (fun q => okB 237 q.1 q.2) = true := by decide +kernel
theorem al_app {α : Type} {a b : List α} {f : α → Bool} (h1 : a.all f = true) (h2 : b.all f = true) : (a ++ b).all f = true := by rw [List.all_append, h1, h2]; rfl
theorem chk_237 : (k_237).all (fun q => okB 237 q.1 q.2) = true := (al_app chk_237_0 (al_app chk_237_1 (al_app chk_237_2 (al_app chk_237_3 (al_app chk_237_4 (al_app chk_237_5 (al_app chk_237_6 (al_app chk_237_7 (al_app chk_237_8 (al_app chk_237_9 (al_app chk_237_10 (al_app chk_237_11 (al_app chk_237_12 (al_app chk_237_13 (al_app chk_237_14 (al_app chk_237_15 (al_app chk_237_16 (al_app chk_237_17 (al_app chk_237_18 chk_237_19)))))))))))))))))))
