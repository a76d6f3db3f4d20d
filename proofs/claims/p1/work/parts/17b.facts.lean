/-! ===== fields and calls: small ones ===== -/
theorem uw_X11 : ∀ w ∈ u_ws RX11 TX11 10, w ∈ WA := WA_list _ [353, 355, 357, 359, 361, 363, 365, 367, 369, 371] (by decide +kernel) (by decide +kernel)
theorem cv_X11_292 : CV RX11 292 yJ4_append_cf468 cJ4_append_cf468 2 (some (.object "java/lang/StringBuilder")) 1 := cv_of (WA_list _ [1386, 1387, 1388, 79, 1389] (by decide +kernel) (by decide +kernel)) (by decide +kernel) (by decide)
theorem cv_X11_299 : CV RX11 299 yJ4_append_bf812 cJ4_append_bf812 2 (some (.object "java/lang/StringBuilder")) 1 := cv_of (WA_list _ [1408, 1261, 1262, 79, 1263] (by decide +kernel) (by decide +kernel)) (by decide +kernel) (by decide)
theorem fl_X11_153 : FL RX11 153 9 RX9 TX9 10 0 := ⟨rfl, by decide, WA_of 129 (by decide +kernel) (by decide +kernel), uw_X9⟩
theorem fl_X11_159 : FL RX11 159 9 RX9 TX9 10 1 := ⟨rfl, by decide, WA_of 132 (by decide +kernel) (by decide +kernel), uw_X9⟩
theorem fl_X11_50 : FL RX11 50 11 RX11 TX11 10 7 := ⟨rfl, by decide, WA_of 350 (by decide +kernel) (by decide +kernel), uw_X11⟩
