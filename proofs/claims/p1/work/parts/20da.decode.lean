/-! ===== instructions: quotients ===== -/
theorem dX11_meanPower_0 : decode cX11_meanPower 0 = .ok (.aload_n 0, 1) := by decide +kernel
theorem dX11_meanPower_1 : decode cX11_meanPower 1 = .ok (.getfield 12, 3) := by decide +kernel
theorem dX11_meanPower_4 : decode cX11_meanPower 4 = .ok (.getfield 135, 3) := by decide +kernel
theorem dX11_meanPower_7 : decode cX11_meanPower 7 = .ok (.ifCond .ne 14, 3) := by decide +kernel
theorem dX11_meanPower_10 : decode cX11_meanPower 10 = .ok (.new 262, 3) := by decide +kernel
theorem dX11_meanPower_13 : decode cX11_meanPower 13 = .ok (.dup, 1) := by decide +kernel
theorem dX11_meanPower_14 : decode cX11_meanPower 14 = .ok (.ldc_w 264, 3) := by decide +kernel
theorem dX11_meanPower_17 : decode cX11_meanPower 17 = .ok (.invokespecial 266, 3) := by decide +kernel
theorem dX11_meanPower_20 : decode cX11_meanPower 20 = .ok (.athrow, 1) := by decide +kernel
theorem dX11_meanPower_21 : decode cX11_meanPower 21 = .ok (.aload_n 0, 1) := by decide +kernel
theorem dX11_meanPower_22 : decode cX11_meanPower 22 = .ok (.getfield 12, 3) := by decide +kernel
theorem dX11_meanPower_25 : decode cX11_meanPower 25 = .ok (.invokevirtual 267, 3) := by decide +kernel
theorem dX11_meanPower_28 : decode cX11_meanPower 28 = .ok (.i2d, 1) := by decide +kernel
theorem dX11_meanPower_29 : decode cX11_meanPower 29 = .ok (.aload_n 0, 1) := by decide +kernel
theorem dX11_meanPower_30 : decode cX11_meanPower 30 = .ok (.getfield 12, 3) := by decide +kernel
theorem dX11_meanPower_33 : decode cX11_meanPower 33 = .ok (.getfield 135, 3) := by decide +kernel
theorem dX11_meanPower_36 : decode cX11_meanPower 36 = .ok (.i2d, 1) := by decide +kernel
theorem dX11_meanPower_37 : decode cX11_meanPower 37 = .ok (.ddiv, 1) := by decide +kernel
theorem dX11_meanPower_38 : decode cX11_meanPower 38 = .ok (.dreturn, 1) := by decide +kernel
theorem dX11_airtime_0 : decode cX11_airtime 0 = .ok (.aload_n 0, 1) := by decide +kernel
theorem dX11_airtime_1 : decode cX11_airtime 1 = .ok (.getfield 12, 3) := by decide +kernel
theorem dX11_airtime_4 : decode cX11_airtime 4 = .ok (.getfield 256, 3) := by decide +kernel
theorem dX11_airtime_7 : decode cX11_airtime 7 = .ok (.ifCond .ne 14, 3) := by decide +kernel
theorem dX11_airtime_10 : decode cX11_airtime 10 = .ok (.new 262, 3) := by decide +kernel
theorem dX11_airtime_13 : decode cX11_airtime 13 = .ok (.dup, 1) := by decide +kernel
theorem dX11_airtime_14 : decode cX11_airtime 14 = .ok (.ldc_w 270, 3) := by decide +kernel
theorem dX11_airtime_17 : decode cX11_airtime 17 = .ok (.invokespecial 266, 3) := by decide +kernel
theorem dX11_airtime_20 : decode cX11_airtime 20 = .ok (.athrow, 1) := by decide +kernel
theorem dX11_airtime_21 : decode cX11_airtime 21 = .ok (.aload_n 0, 1) := by decide +kernel
theorem dX11_airtime_22 : decode cX11_airtime 22 = .ok (.getfield 12, 3) := by decide +kernel
theorem dX11_airtime_25 : decode cX11_airtime 25 = .ok (.invokevirtual 272, 3) := by decide +kernel
theorem dX11_airtime_28 : decode cX11_airtime 28 = .ok (.i2f, 1) := by decide +kernel
theorem dX11_airtime_29 : decode cX11_airtime 29 = .ok (.aload_n 0, 1) := by decide +kernel
theorem dX11_airtime_30 : decode cX11_airtime 30 = .ok (.getfield 12, 3) := by decide +kernel
theorem dX11_airtime_33 : decode cX11_airtime 33 = .ok (.getfield 256, 3) := by decide +kernel
theorem dX11_airtime_36 : decode cX11_airtime 36 = .ok (.i2f, 1) := by decide +kernel
theorem dX11_airtime_37 : decode cX11_airtime 37 = .ok (.fdiv, 1) := by decide +kernel
theorem dX11_airtime_38 : decode cX11_airtime 38 = .ok (.freturn, 1) := by decide +kernel
theorem dX12_meanPower_0 : decode cX12_meanPower 0 = .ok (.aload_n 0, 1) := by decide +kernel
theorem dX12_meanPower_1 : decode cX12_meanPower 1 = .ok (.aload_n 0, 1) := by decide +kernel
theorem dX12_meanPower_2 : decode cX12_meanPower 2 = .ok (.getfield 7, 3) := by decide +kernel
theorem dX12_meanPower_5 : decode cX12_meanPower 5 = .ok (.iconst 0, 1) := by decide +kernel
theorem dX12_meanPower_6 : decode cX12_meanPower 6 = .ok (.iaload, 1) := by decide +kernel
theorem dX12_meanPower_7 : decode cX12_meanPower 7 = .ok (.ifCond .ne 7, 3) := by decide +kernel
theorem dX12_meanPower_10 : decode cX12_meanPower 10 = .ok (.iconst 1, 1) := by decide +kernel
theorem dX12_meanPower_11 : decode cX12_meanPower 11 = .ok (.goto 4, 3) := by decide +kernel
theorem dX12_meanPower_14 : decode cX12_meanPower 14 = .ok (.iconst 0, 1) := by decide +kernel
theorem dX12_meanPower_15 : decode cX12_meanPower 15 = .ok (.putfield 22, 3) := by decide +kernel
theorem dX12_meanPower_18 : decode cX12_meanPower 18 = .ok (.aload_n 0, 1) := by decide +kernel
theorem dX12_meanPower_19 : decode cX12_meanPower 19 = .ok (.getfield 22, 3) := by decide +kernel
theorem dX12_meanPower_22 : decode cX12_meanPower 22 = .ok (.ifCond .le 7, 3) := by decide +kernel
theorem dX12_meanPower_25 : decode cX12_meanPower 25 = .ok (.dconst 0, 1) := by decide +kernel
theorem dX12_meanPower_26 : decode cX12_meanPower 26 = .ok (.goto 17, 3) := by decide +kernel
theorem dX12_meanPower_29 : decode cX12_meanPower 29 = .ok (.aload_n 0, 1) := by decide +kernel
theorem dX12_meanPower_30 : decode cX12_meanPower 30 = .ok (.iconst 4, 1) := by decide +kernel
theorem dX12_meanPower_31 : decode cX12_meanPower 31 = .ok (.invokevirtual 221, 3) := by decide +kernel
theorem dX12_meanPower_34 : decode cX12_meanPower 34 = .ok (.i2d, 1) := by decide +kernel
theorem dX12_meanPower_35 : decode cX12_meanPower 35 = .ok (.aload_n 0, 1) := by decide +kernel
theorem dX12_meanPower_36 : decode cX12_meanPower 36 = .ok (.getfield 7, 3) := by decide +kernel
theorem dX12_meanPower_39 : decode cX12_meanPower 39 = .ok (.iconst 0, 1) := by decide +kernel
theorem dX12_meanPower_40 : decode cX12_meanPower 40 = .ok (.iaload, 1) := by decide +kernel
theorem dX12_meanPower_41 : decode cX12_meanPower 41 = .ok (.i2d, 1) := by decide +kernel
theorem dX12_meanPower_42 : decode cX12_meanPower 42 = .ok (.ddiv, 1) := by decide +kernel
theorem dX12_meanPower_43 : decode cX12_meanPower 43 = .ok (.dreturn, 1) := by decide +kernel
theorem dX12_airtime_0 : decode cX12_airtime 0 = .ok (.aload_n 0, 1) := by decide +kernel
theorem dX12_airtime_1 : decode cX12_airtime 1 = .ok (.aload_n 0, 1) := by decide +kernel
theorem dX12_airtime_2 : decode cX12_airtime 2 = .ok (.getfield 7, 3) := by decide +kernel
theorem dX12_airtime_5 : decode cX12_airtime 5 = .ok (.iconst 1, 1) := by decide +kernel
theorem dX12_airtime_6 : decode cX12_airtime 6 = .ok (.iaload, 1) := by decide +kernel
theorem dX12_airtime_7 : decode cX12_airtime 7 = .ok (.ifCond .ne 7, 3) := by decide +kernel
theorem dX12_airtime_10 : decode cX12_airtime 10 = .ok (.iconst 1, 1) := by decide +kernel
theorem dX12_airtime_11 : decode cX12_airtime 11 = .ok (.goto 4, 3) := by decide +kernel
theorem dX12_airtime_14 : decode cX12_airtime 14 = .ok (.iconst 0, 1) := by decide +kernel
theorem dX12_airtime_15 : decode cX12_airtime 15 = .ok (.putfield 22, 3) := by decide +kernel
theorem dX12_airtime_18 : decode cX12_airtime 18 = .ok (.aload_n 0, 1) := by decide +kernel
theorem dX12_airtime_19 : decode cX12_airtime 19 = .ok (.getfield 22, 3) := by decide +kernel
theorem dX12_airtime_22 : decode cX12_airtime 22 = .ok (.ifCond .le 7, 3) := by decide +kernel
theorem dX12_airtime_25 : decode cX12_airtime 25 = .ok (.fconst 0, 1) := by decide +kernel
theorem dX12_airtime_26 : decode cX12_airtime 26 = .ok (.goto 18, 3) := by decide +kernel
theorem dX12_airtime_29 : decode cX12_airtime 29 = .ok (.aload_n 0, 1) := by decide +kernel
theorem dX12_airtime_30 : decode cX12_airtime 30 = .ok (.bipush 9, 2) := by decide +kernel
theorem dX12_airtime_32 : decode cX12_airtime 32 = .ok (.invokevirtual 221, 3) := by decide +kernel
theorem dX12_airtime_35 : decode cX12_airtime 35 = .ok (.i2f, 1) := by decide +kernel
theorem dX12_airtime_36 : decode cX12_airtime 36 = .ok (.aload_n 0, 1) := by decide +kernel
theorem dX12_airtime_37 : decode cX12_airtime 37 = .ok (.getfield 7, 3) := by decide +kernel
theorem dX12_airtime_40 : decode cX12_airtime 40 = .ok (.iconst 1, 1) := by decide +kernel
theorem dX12_airtime_41 : decode cX12_airtime 41 = .ok (.iaload, 1) := by decide +kernel
theorem dX12_airtime_42 : decode cX12_airtime 42 = .ok (.i2f, 1) := by decide +kernel
theorem dX12_airtime_43 : decode cX12_airtime 43 = .ok (.fdiv, 1) := by decide +kernel
theorem dX12_airtime_44 : decode cX12_airtime 44 = .ok (.freturn, 1) := by decide +kernel
