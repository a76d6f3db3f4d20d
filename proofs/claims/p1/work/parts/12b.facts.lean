/-! ===== fields and calls: relays ===== -/
theorem uw_X8 : ∀ w ∈ u_ws RX8 TX8 2, w ∈ WA := WA_list _ [260, 262] (by decide +kernel) (by decide +kernel)
theorem cs_X8_38 : CS RX8 38 yJ6_bitCount_0f7a4 cJ6_bitCount_0f7a4 1 (some .int) 1 := cs_of (WA_list _ [1050, 1051, 96, 1052] (by decide +kernel) (by decide +kernel)) (by decide +kernel) (by decide)
theorem cv_X8_28 : CV RX8 28 yX9_hears cX9_hears 2 (some .boolean) 1 := cv_of (WA_list _ [440, 441, 442, 69, 443] (by decide +kernel) (by decide +kernel)) (by decide +kernel) (by decide)
theorem cv_X8_34 : CV RX8 34 yX8_extended cX8_extended 6 (some .int) 2 := cv_of (WA_list _ [448, 449, 450, 74, 451] (by decide +kernel) (by decide +kernel)) (by decide +kernel) (by decide)
theorem fl_X8_15 : FL RX8 15 8 RX8 TX8 2 1 := ⟨rfl, by decide, WA_of 259 (by decide +kernel) (by decide +kernel), uw_X8⟩
theorem fl_X8_18 : FL RX8 18 6 RX6 TX6 7 1 := ⟨rfl, by decide, WA_of 205 (by decide +kernel) (by decide +kernel), uw_X6⟩
theorem fl_X8_24 : FL RX8 24 6 RX6 TX6 7 0 := ⟨rfl, by decide, WA_of 202 (by decide +kernel) (by decide +kernel), uw_X6⟩
theorem fl_X8_9 : FL RX8 9 8 RX8 TX8 2 0 := ⟨rfl, by decide, WA_of 258 (by decide +kernel) (by decide +kernel), uw_X8⟩
theorem kc_J6_265 : Cond.constant RJ6 265 (1431655765 : Int32) ∈ WA := WA_of 1053 (by decide +kernel) (by decide +kernel)
theorem kc_J6_266 : Cond.constant RJ6 266 (858993459 : Int32) ∈ WA := WA_of 1054 (by decide +kernel) (by decide +kernel)
theorem kc_J6_267 : Cond.constant RJ6 267 (252645135 : Int32) ∈ WA := WA_of 1055 (by decide +kernel) (by decide +kernel)
