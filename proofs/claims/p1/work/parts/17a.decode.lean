/-! ===== instructions: small ones ===== -/
theorem dX3_clear_0 : decode cX3_clear 0 = .ok (.aload_n 0, 1) := by decide +kernel
theorem dX3_clear_1 : decode cX3_clear 1 = .ok (.iconst 0, 1) := by decide +kernel
theorem dX3_clear_2 : decode cX3_clear 2 = .ok (.putfield 22, 3) := by decide +kernel
theorem dX3_clear_5 : decode cX3_clear 5 = .ok (.return_, 1) := by decide +kernel
theorem dX11_appendSign_0 : decode cX11_appendSign 0 = .ok (.aload_n 0, 1) := by decide +kernel
theorem dX11_appendSign_1 : decode cX11_appendSign 1 = .ok (.getfield 50, 3) := by decide +kernel
theorem dX11_appendSign_4 : decode cX11_appendSign 4 = .ok (.aload_n 1, 1) := by decide +kernel
theorem dX11_appendSign_5 : decode cX11_appendSign 5 = .ok (.getfield 153, 3) := by decide +kernel
theorem dX11_appendSign_8 : decode cX11_appendSign 8 = .ok (.invokevirtual 292, 3) := by decide +kernel
theorem dX11_appendSign_11 : decode cX11_appendSign 11 = .ok (.aload_n 1, 1) := by decide +kernel
theorem dX11_appendSign_12 : decode cX11_appendSign 12 = .ok (.getfield 159, 3) := by decide +kernel
theorem dX11_appendSign_15 : decode cX11_appendSign 15 = .ok (.invokevirtual 299, 3) := by decide +kernel
theorem dX11_appendSign_18 : decode cX11_appendSign 18 = .ok (.pop, 1) := by decide +kernel
theorem dX11_appendSign_19 : decode cX11_appendSign 19 = .ok (.return_, 1) := by decide +kernel
