/-! ===== instructions: the class ===== -/
theorem dX11_refuse_0 : decode cX11_refuse 0 = .ok (.getstatic 380, 3) := by decide +kernel
theorem dX11_refuse_3 : decode cX11_refuse 3 = .ok (.aload_n 0, 1) := by decide +kernel
theorem dX11_refuse_4 : decode cX11_refuse 4 = .ok (.invokevirtual 385, 3) := by decide +kernel
theorem dX11_refuse_7 : decode cX11_refuse 7 = .ok (.iaload, 1) := by decide +kernel
theorem dX11_refuse_8 : decode cX11_refuse 8 = .ok (.tableswitch 76 1 4 #[32, 43, 54, 65], 32) := by decide +kernel
theorem dX11_refuse_40 : decode cX11_refuse 40 = .ok (.new 314, 3) := by decide +kernel
theorem dX11_refuse_43 : decode cX11_refuse 43 = .ok (.dup, 1) := by decide +kernel
theorem dX11_refuse_44 : decode cX11_refuse 44 = .ok (.ldc_w 390, 3) := by decide +kernel
theorem dX11_refuse_47 : decode cX11_refuse 47 = .ok (.invokespecial 318, 3) := by decide +kernel
theorem dX11_refuse_50 : decode cX11_refuse 50 = .ok (.athrow, 1) := by decide +kernel
theorem dX11_refuse_51 : decode cX11_refuse 51 = .ok (.new 339, 3) := by decide +kernel
theorem dX11_refuse_54 : decode cX11_refuse 54 = .ok (.dup, 1) := by decide +kernel
theorem dX11_refuse_55 : decode cX11_refuse 55 = .ok (.ldc_w 392, 3) := by decide +kernel
theorem dX11_refuse_58 : decode cX11_refuse 58 = .ok (.invokespecial 343, 3) := by decide +kernel
theorem dX11_refuse_61 : decode cX11_refuse 61 = .ok (.athrow, 1) := by decide +kernel
theorem dX11_refuse_62 : decode cX11_refuse 62 = .ok (.new 360, 3) := by decide +kernel
theorem dX11_refuse_65 : decode cX11_refuse 65 = .ok (.dup, 1) := by decide +kernel
theorem dX11_refuse_66 : decode cX11_refuse 66 = .ok (.ldc_w 394, 3) := by decide +kernel
theorem dX11_refuse_69 : decode cX11_refuse 69 = .ok (.invokespecial 364, 3) := by decide +kernel
theorem dX11_refuse_72 : decode cX11_refuse 72 = .ok (.athrow, 1) := by decide +kernel
theorem dX11_refuse_73 : decode cX11_refuse 73 = .ok (.new 325, 3) := by decide +kernel
theorem dX11_refuse_76 : decode cX11_refuse 76 = .ok (.dup, 1) := by decide +kernel
theorem dX11_refuse_77 : decode cX11_refuse 77 = .ok (.ldc_w 396, 3) := by decide +kernel
theorem dX11_refuse_80 : decode cX11_refuse 80 = .ok (.invokespecial 329, 3) := by decide +kernel
theorem dX11_refuse_83 : decode cX11_refuse 83 = .ok (.athrow, 1) := by decide +kernel
theorem dX11_refuse_84 : decode cX11_refuse 84 = .ok (.return_, 1) := by decide +kernel
theorem dX11_addStation_0 : decode cX11_addStation 0 = .ok (.aload_n 0, 1) := by decide +kernel
theorem dX11_addStation_1 : decode cX11_addStation 1 = .ok (.getfield 12, 3) := by decide +kernel
theorem dX11_addStation_4 : decode cX11_addStation 4 = .ok (.iload_n 1, 1) := by decide +kernel
theorem dX11_addStation_5 : decode cX11_addStation 5 = .ok (.iload_n 2, 1) := by decide +kernel
theorem dX11_addStation_6 : decode cX11_addStation 6 = .ok (.iload_n 3, 1) := by decide +kernel
theorem dX11_addStation_7 : decode cX11_addStation 7 = .ok (.iload 4, 2) := by decide +kernel
theorem dX11_addStation_9 : decode cX11_addStation 9 = .ok (.iload 5, 2) := by decide +kernel
theorem dX11_addStation_11 : decode cX11_addStation 11 = .ok (.iload 6, 2) := by decide +kernel
theorem dX11_addStation_13 : decode cX11_addStation 13 = .ok (.invokevirtual 61, 3) := by decide +kernel
theorem dX11_addStation_16 : decode cX11_addStation 16 = .ok (.invokestatic 65, 3) := by decide +kernel
theorem dX11_addStation_19 : decode cX11_addStation 19 = .ok (.aload_n 0, 1) := by decide +kernel
theorem dX11_addStation_20 : decode cX11_addStation 20 = .ok (.getfield 29, 3) := by decide +kernel
theorem dX11_addStation_23 : decode cX11_addStation 23 = .ok (.aload_n 0, 1) := by decide +kernel
theorem dX11_addStation_24 : decode cX11_addStation 24 = .ok (.getfield 12, 3) := by decide +kernel
theorem dX11_addStation_27 : decode cX11_addStation 27 = .ok (.invokevirtual 69, 3) := by decide +kernel
theorem dX11_addStation_30 : decode cX11_addStation 30 = .ok (.aload_n 0, 1) := by decide +kernel
theorem dX11_addStation_31 : decode cX11_addStation 31 = .ok (.getfield 12, 3) := by decide +kernel
theorem dX11_addStation_34 : decode cX11_addStation 34 = .ok (.iload_n 1, 1) := by decide +kernel
theorem dX11_addStation_35 : decode cX11_addStation 35 = .ok (.iload_n 2, 1) := by decide +kernel
theorem dX11_addStation_36 : decode cX11_addStation 36 = .ok (.iload_n 3, 1) := by decide +kernel
theorem dX11_addStation_37 : decode cX11_addStation 37 = .ok (.iload 4, 2) := by decide +kernel
theorem dX11_addStation_39 : decode cX11_addStation 39 = .ok (.iload 5, 2) := by decide +kernel
theorem dX11_addStation_41 : decode cX11_addStation 41 = .ok (.iload 6, 2) := by decide +kernel
theorem dX11_addStation_43 : decode cX11_addStation 43 = .ok (.invokevirtual 73, 3) := by decide +kernel
theorem dX11_addStation_46 : decode cX11_addStation 46 = .ok (.ireturn, 1) := by decide +kernel
theorem dX11_move_0 : decode cX11_move 0 = .ok (.aload_n 0, 1) := by decide +kernel
theorem dX11_move_1 : decode cX11_move 1 = .ok (.getfield 12, 3) := by decide +kernel
theorem dX11_move_4 : decode cX11_move 4 = .ok (.iload_n 1, 1) := by decide +kernel
theorem dX11_move_5 : decode cX11_move 5 = .ok (.iload_n 2, 1) := by decide +kernel
theorem dX11_move_6 : decode cX11_move 6 = .ok (.iload_n 3, 1) := by decide +kernel
theorem dX11_move_7 : decode cX11_move 7 = .ok (.invokevirtual 77, 3) := by decide +kernel
theorem dX11_move_10 : decode cX11_move 10 = .ok (.invokestatic 65, 3) := by decide +kernel
theorem dX11_move_13 : decode cX11_move 13 = .ok (.aload_n 0, 1) := by decide +kernel
theorem dX11_move_14 : decode cX11_move 14 = .ok (.getfield 29, 3) := by decide +kernel
theorem dX11_move_17 : decode cX11_move 17 = .ok (.aload_n 0, 1) := by decide +kernel
theorem dX11_move_18 : decode cX11_move 18 = .ok (.getfield 12, 3) := by decide +kernel
theorem dX11_move_21 : decode cX11_move 21 = .ok (.invokevirtual 69, 3) := by decide +kernel
theorem dX11_move_24 : decode cX11_move 24 = .ok (.aload_n 0, 1) := by decide +kernel
theorem dX11_move_25 : decode cX11_move 25 = .ok (.getfield 12, 3) := by decide +kernel
theorem dX11_move_28 : decode cX11_move 28 = .ok (.iload_n 1, 1) := by decide +kernel
theorem dX11_move_29 : decode cX11_move 29 = .ok (.iload_n 2, 1) := by decide +kernel
theorem dX11_move_30 : decode cX11_move 30 = .ok (.iload_n 3, 1) := by decide +kernel
theorem dX11_move_31 : decode cX11_move 31 = .ok (.invokevirtual 81, 3) := by decide +kernel
theorem dX11_move_34 : decode cX11_move 34 = .ok (.ireturn, 1) := by decide +kernel
theorem dX11_setPower_0 : decode cX11_setPower 0 = .ok (.aload_n 0, 1) := by decide +kernel
theorem dX11_setPower_1 : decode cX11_setPower 1 = .ok (.getfield 12, 3) := by decide +kernel
theorem dX11_setPower_4 : decode cX11_setPower 4 = .ok (.iload_n 1, 1) := by decide +kernel
theorem dX11_setPower_5 : decode cX11_setPower 5 = .ok (.iload_n 2, 1) := by decide +kernel
theorem dX11_setPower_6 : decode cX11_setPower 6 = .ok (.invokevirtual 85, 3) := by decide +kernel
theorem dX11_setPower_9 : decode cX11_setPower 9 = .ok (.invokestatic 65, 3) := by decide +kernel
theorem dX11_setPower_12 : decode cX11_setPower 12 = .ok (.aload_n 0, 1) := by decide +kernel
theorem dX11_setPower_13 : decode cX11_setPower 13 = .ok (.getfield 29, 3) := by decide +kernel
theorem dX11_setPower_16 : decode cX11_setPower 16 = .ok (.aload_n 0, 1) := by decide +kernel
theorem dX11_setPower_17 : decode cX11_setPower 17 = .ok (.getfield 12, 3) := by decide +kernel
theorem dX11_setPower_20 : decode cX11_setPower 20 = .ok (.invokevirtual 69, 3) := by decide +kernel
theorem dX11_setPower_23 : decode cX11_setPower 23 = .ok (.aload_n 0, 1) := by decide +kernel
theorem dX11_setPower_24 : decode cX11_setPower 24 = .ok (.getfield 12, 3) := by decide +kernel
theorem dX11_setPower_27 : decode cX11_setPower 27 = .ok (.iload_n 1, 1) := by decide +kernel
theorem dX11_setPower_28 : decode cX11_setPower 28 = .ok (.iload_n 2, 1) := by decide +kernel
theorem dX11_setPower_29 : decode cX11_setPower 29 = .ok (.invokevirtual 89, 3) := by decide +kernel
theorem dX11_setPower_32 : decode cX11_setPower 32 = .ok (.ireturn, 1) := by decide +kernel
theorem dX11_tune_0 : decode cX11_tune 0 = .ok (.aload_n 0, 1) := by decide +kernel
theorem dX11_tune_1 : decode cX11_tune 1 = .ok (.getfield 12, 3) := by decide +kernel
theorem dX11_tune_4 : decode cX11_tune 4 = .ok (.iload_n 1, 1) := by decide +kernel
theorem dX11_tune_5 : decode cX11_tune 5 = .ok (.iload_n 2, 1) := by decide +kernel
theorem dX11_tune_6 : decode cX11_tune 6 = .ok (.invokevirtual 93, 3) := by decide +kernel
theorem dX11_tune_9 : decode cX11_tune 9 = .ok (.invokestatic 65, 3) := by decide +kernel
theorem dX11_tune_12 : decode cX11_tune 12 = .ok (.aload_n 0, 1) := by decide +kernel
theorem dX11_tune_13 : decode cX11_tune 13 = .ok (.getfield 29, 3) := by decide +kernel
theorem dX11_tune_16 : decode cX11_tune 16 = .ok (.aload_n 0, 1) := by decide +kernel
theorem dX11_tune_17 : decode cX11_tune 17 = .ok (.getfield 12, 3) := by decide +kernel
theorem dX11_tune_20 : decode cX11_tune 20 = .ok (.invokevirtual 69, 3) := by decide +kernel
theorem dX11_tune_23 : decode cX11_tune 23 = .ok (.aload_n 0, 1) := by decide +kernel
theorem dX11_tune_24 : decode cX11_tune 24 = .ok (.getfield 12, 3) := by decide +kernel
theorem dX11_tune_27 : decode cX11_tune 27 = .ok (.iload_n 1, 1) := by decide +kernel
theorem dX11_tune_28 : decode cX11_tune 28 = .ok (.iload_n 2, 1) := by decide +kernel
theorem dX11_tune_29 : decode cX11_tune 29 = .ok (.invokevirtual 96, 3) := by decide +kernel
theorem dX11_tune_32 : decode cX11_tune 32 = .ok (.ireturn, 1) := by decide +kernel
theorem dX11_request_0 : decode cX11_request 0 = .ok (.aload_n 0, 1) := by decide +kernel
theorem dX11_request_1 : decode cX11_request 1 = .ok (.getfield 12, 3) := by decide +kernel
theorem dX11_request_4 : decode cX11_request 4 = .ok (.iload_n 1, 1) := by decide +kernel
theorem dX11_request_5 : decode cX11_request 5 = .ok (.getstatic 99, 3) := by decide +kernel
theorem dX11_request_8 : decode cX11_request 8 = .ok (.invokevirtual 105, 3) := by decide +kernel
theorem dX11_request_11 : decode cX11_request 11 = .ok (.invokestatic 65, 3) := by decide +kernel
theorem dX11_request_14 : decode cX11_request 14 = .ok (.aload_n 0, 1) := by decide +kernel
theorem dX11_request_15 : decode cX11_request 15 = .ok (.getfield 29, 3) := by decide +kernel
theorem dX11_request_18 : decode cX11_request 18 = .ok (.aload_n 0, 1) := by decide +kernel
theorem dX11_request_19 : decode cX11_request 19 = .ok (.getfield 12, 3) := by decide +kernel
theorem dX11_request_22 : decode cX11_request 22 = .ok (.invokevirtual 69, 3) := by decide +kernel
theorem dX11_request_25 : decode cX11_request 25 = .ok (.aload_n 0, 1) := by decide +kernel
theorem dX11_request_26 : decode cX11_request 26 = .ok (.getfield 12, 3) := by decide +kernel
theorem dX11_request_29 : decode cX11_request 29 = .ok (.iload_n 1, 1) := by decide +kernel
theorem dX11_request_30 : decode cX11_request 30 = .ok (.invokevirtual 109, 3) := by decide +kernel
theorem dX11_request_33 : decode cX11_request 33 = .ok (.ireturn, 1) := by decide +kernel
theorem dX11_release_0 : decode cX11_release 0 = .ok (.aload_n 0, 1) := by decide +kernel
theorem dX11_release_1 : decode cX11_release 1 = .ok (.getfield 12, 3) := by decide +kernel
theorem dX11_release_4 : decode cX11_release 4 = .ok (.iload_n 1, 1) := by decide +kernel
theorem dX11_release_5 : decode cX11_release 5 = .ok (.getstatic 113, 3) := by decide +kernel
theorem dX11_release_8 : decode cX11_release 8 = .ok (.invokevirtual 105, 3) := by decide +kernel
theorem dX11_release_11 : decode cX11_release 11 = .ok (.invokestatic 65, 3) := by decide +kernel
theorem dX11_release_14 : decode cX11_release 14 = .ok (.aload_n 0, 1) := by decide +kernel
theorem dX11_release_15 : decode cX11_release 15 = .ok (.getfield 29, 3) := by decide +kernel
theorem dX11_release_18 : decode cX11_release 18 = .ok (.aload_n 0, 1) := by decide +kernel
theorem dX11_release_19 : decode cX11_release 19 = .ok (.getfield 12, 3) := by decide +kernel
theorem dX11_release_22 : decode cX11_release 22 = .ok (.invokevirtual 69, 3) := by decide +kernel
theorem dX11_release_25 : decode cX11_release 25 = .ok (.aload_n 0, 1) := by decide +kernel
theorem dX11_release_26 : decode cX11_release 26 = .ok (.getfield 12, 3) := by decide +kernel
theorem dX11_release_29 : decode cX11_release 29 = .ok (.iload_n 1, 1) := by decide +kernel
theorem dX11_release_30 : decode cX11_release 30 = .ok (.invokevirtual 116, 3) := by decide +kernel
theorem dX11_release_33 : decode cX11_release 33 = .ok (.ireturn, 1) := by decide +kernel
theorem dX11_cancel_0 : decode cX11_cancel 0 = .ok (.aload_n 0, 1) := by decide +kernel
theorem dX11_cancel_1 : decode cX11_cancel 1 = .ok (.getfield 12, 3) := by decide +kernel
theorem dX11_cancel_4 : decode cX11_cancel 4 = .ok (.iload_n 1, 1) := by decide +kernel
theorem dX11_cancel_5 : decode cX11_cancel 5 = .ok (.getstatic 119, 3) := by decide +kernel
theorem dX11_cancel_8 : decode cX11_cancel 8 = .ok (.invokevirtual 105, 3) := by decide +kernel
theorem dX11_cancel_11 : decode cX11_cancel 11 = .ok (.invokestatic 65, 3) := by decide +kernel
theorem dX11_cancel_14 : decode cX11_cancel 14 = .ok (.aload_n 0, 1) := by decide +kernel
theorem dX11_cancel_15 : decode cX11_cancel 15 = .ok (.getfield 29, 3) := by decide +kernel
theorem dX11_cancel_18 : decode cX11_cancel 18 = .ok (.aload_n 0, 1) := by decide +kernel
theorem dX11_cancel_19 : decode cX11_cancel 19 = .ok (.getfield 12, 3) := by decide +kernel
theorem dX11_cancel_22 : decode cX11_cancel 22 = .ok (.invokevirtual 69, 3) := by decide +kernel
theorem dX11_cancel_25 : decode cX11_cancel 25 = .ok (.aload_n 0, 1) := by decide +kernel
theorem dX11_cancel_26 : decode cX11_cancel 26 = .ok (.getfield 12, 3) := by decide +kernel
theorem dX11_cancel_29 : decode cX11_cancel 29 = .ok (.iload_n 1, 1) := by decide +kernel
theorem dX11_cancel_30 : decode cX11_cancel 30 = .ok (.invokevirtual 122, 3) := by decide +kernel
theorem dX11_cancel_33 : decode cX11_cancel 33 = .ok (.ireturn, 1) := by decide +kernel
theorem dX11_setTurnLimit_0 : decode cX11_setTurnLimit 0 = .ok (.iload_n 1, 1) := by decide +kernel
theorem dX11_setTurnLimit_1 : decode cX11_setTurnLimit 1 = .ok (.invokestatic 125, 3) := by decide +kernel
theorem dX11_setTurnLimit_4 : decode cX11_setTurnLimit 4 = .ok (.invokestatic 65, 3) := by decide +kernel
theorem dX11_setTurnLimit_7 : decode cX11_setTurnLimit 7 = .ok (.aload_n 0, 1) := by decide +kernel
theorem dX11_setTurnLimit_8 : decode cX11_setTurnLimit 8 = .ok (.getfield 29, 3) := by decide +kernel
theorem dX11_setTurnLimit_11 : decode cX11_setTurnLimit 11 = .ok (.aload_n 0, 1) := by decide +kernel
theorem dX11_setTurnLimit_12 : decode cX11_setTurnLimit 12 = .ok (.getfield 12, 3) := by decide +kernel
theorem dX11_setTurnLimit_15 : decode cX11_setTurnLimit 15 = .ok (.invokevirtual 69, 3) := by decide +kernel
theorem dX11_setTurnLimit_18 : decode cX11_setTurnLimit 18 = .ok (.aload_n 0, 1) := by decide +kernel
theorem dX11_setTurnLimit_19 : decode cX11_setTurnLimit 19 = .ok (.getfield 12, 3) := by decide +kernel
theorem dX11_setTurnLimit_22 : decode cX11_setTurnLimit 22 = .ok (.iload_n 1, 1) := by decide +kernel
theorem dX11_setTurnLimit_23 : decode cX11_setTurnLimit 23 = .ok (.invokevirtual 129, 3) := by decide +kernel
theorem dX11_setTurnLimit_26 : decode cX11_setTurnLimit 26 = .ok (.ireturn, 1) := by decide +kernel
theorem dX11_pass_0 : decode cX11_pass 0 = .ok (.iload_n 1, 1) := by decide +kernel
theorem dX11_pass_1 : decode cX11_pass 1 = .ok (.invokestatic 125, 3) := by decide +kernel
theorem dX11_pass_4 : decode cX11_pass 4 = .ok (.invokestatic 65, 3) := by decide +kernel
theorem dX11_pass_7 : decode cX11_pass 7 = .ok (.aload_n 0, 1) := by decide +kernel
theorem dX11_pass_8 : decode cX11_pass 8 = .ok (.getfield 29, 3) := by decide +kernel
theorem dX11_pass_11 : decode cX11_pass 11 = .ok (.aload_n 0, 1) := by decide +kernel
theorem dX11_pass_12 : decode cX11_pass 12 = .ok (.getfield 12, 3) := by decide +kernel
theorem dX11_pass_15 : decode cX11_pass 15 = .ok (.invokevirtual 69, 3) := by decide +kernel
theorem dX11_pass_18 : decode cX11_pass 18 = .ok (.aload_n 0, 1) := by decide +kernel
theorem dX11_pass_19 : decode cX11_pass 19 = .ok (.getfield 12, 3) := by decide +kernel
theorem dX11_pass_22 : decode cX11_pass 22 = .ok (.iload_n 1, 1) := by decide +kernel
theorem dX11_pass_23 : decode cX11_pass 23 = .ok (.invokevirtual 132, 3) := by decide +kernel
theorem dX11_pass_26 : decode cX11_pass 26 = .ok (.ireturn, 1) := by decide +kernel
theorem dX11_stations_0 : decode cX11_stations 0 = .ok (.aload_n 0, 1) := by decide +kernel
theorem dX11_stations_1 : decode cX11_stations 1 = .ok (.getfield 12, 3) := by decide +kernel
theorem dX11_stations_4 : decode cX11_stations 4 = .ok (.getfield 135, 3) := by decide +kernel
theorem dX11_stations_7 : decode cX11_stations 7 = .ok (.ireturn, 1) := by decide +kernel
theorem dX11_find_0 : decode cX11_find 0 = .ok (.aload_n 0, 1) := by decide +kernel
theorem dX11_find_1 : decode cX11_find 1 = .ok (.getfield 12, 3) := by decide +kernel
theorem dX11_find_4 : decode cX11_find 4 = .ok (.iload_n 1, 1) := by decide +kernel
theorem dX11_find_5 : decode cX11_find 5 = .ok (.iload_n 2, 1) := by decide +kernel
theorem dX11_find_6 : decode cX11_find 6 = .ok (.invokevirtual 138, 3) := by decide +kernel
theorem dX11_find_9 : decode cX11_find 9 = .ok (.istore_n 3, 1) := by decide +kernel
theorem dX11_find_10 : decode cX11_find 10 = .ok (.iload_n 3, 1) := by decide +kernel
theorem dX11_find_11 : decode cX11_find 11 = .ok (.ifCond .ge 13, 3) := by decide +kernel
theorem dX11_find_14 : decode cX11_find 14 = .ok (.new 142, 3) := by decide +kernel
theorem dX11_find_17 : decode cX11_find 17 = .ok (.dup, 1) := by decide +kernel
theorem dX11_find_18 : decode cX11_find 18 = .ok (.ldc 144, 2) := by decide +kernel
theorem dX11_find_20 : decode cX11_find 20 = .ok (.invokespecial 146, 3) := by decide +kernel
theorem dX11_find_23 : decode cX11_find 23 = .ok (.athrow, 1) := by decide +kernel
theorem dX11_find_24 : decode cX11_find 24 = .ok (.iload_n 3, 1) := by decide +kernel
theorem dX11_find_25 : decode cX11_find 25 = .ok (.ireturn, 1) := by decide +kernel
theorem dX11_requireStation_0 : decode cX11_requireStation 0 = .ok (.aload_n 0, 1) := by decide +kernel
theorem dX11_requireStation_1 : decode cX11_requireStation 1 = .ok (.getfield 12, 3) := by decide +kernel
theorem dX11_requireStation_4 : decode cX11_requireStation 4 = .ok (.iload_n 1, 1) := by decide +kernel
theorem dX11_requireStation_5 : decode cX11_requireStation 5 = .ok (.invokevirtual 398, 3) := by decide +kernel
theorem dX11_requireStation_8 : decode cX11_requireStation 8 = .ok (.ifCond .ne 14, 3) := by decide +kernel
theorem dX11_requireStation_11 : decode cX11_requireStation 11 = .ok (.new 314, 3) := by decide +kernel
theorem dX11_requireStation_14 : decode cX11_requireStation 14 = .ok (.dup, 1) := by decide +kernel
theorem dX11_requireStation_15 : decode cX11_requireStation 15 = .ok (.ldc_w 390, 3) := by decide +kernel
theorem dX11_requireStation_18 : decode cX11_requireStation 18 = .ok (.invokespecial 318, 3) := by decide +kernel
theorem dX11_requireStation_21 : decode cX11_requireStation 21 = .ok (.athrow, 1) := by decide +kernel
theorem dX11_requireStation_22 : decode cX11_requireStation 22 = .ok (.return_, 1) := by decide +kernel
theorem dX11_known_0 : decode cX11_known 0 = .ok (.aload_n 0, 1) := by decide +kernel
theorem dX11_known_1 : decode cX11_known 1 = .ok (.iload_n 1, 1) := by decide +kernel
theorem dX11_known_2 : decode cX11_known 2 = .ok (.invokevirtual 219, 3) := by decide +kernel
theorem dX11_known_5 : decode cX11_known 5 = .ok (.aload_n 0, 1) := by decide +kernel
theorem dX11_known_6 : decode cX11_known 6 = .ok (.getfield 12, 3) := by decide +kernel
theorem dX11_known_9 : decode cX11_known 9 = .ok (.getfield 308, 3) := by decide +kernel
theorem dX11_known_12 : decode cX11_known 12 = .ok (.iload_n 1, 1) := by decide +kernel
theorem dX11_known_13 : decode cX11_known 13 = .ok (.aaload, 1) := by decide +kernel
theorem dX11_known_14 : decode cX11_known 14 = .ok (.areturn, 1) := by decide +kernel
theorem dX11_letter_0 : decode cX11_letter 0 = .ok (.aload_n 0, 1) := by decide +kernel
theorem dX11_letter_1 : decode cX11_letter 1 = .ok (.iload_n 1, 1) := by decide +kernel
theorem dX11_letter_2 : decode cX11_letter 2 = .ok (.invokevirtual 149, 3) := by decide +kernel
theorem dX11_letter_5 : decode cX11_letter 5 = .ok (.getfield 153, 3) := by decide +kernel
theorem dX11_letter_8 : decode cX11_letter 8 = .ok (.ireturn, 1) := by decide +kernel
theorem dX11_digit_0 : decode cX11_digit 0 = .ok (.aload_n 0, 1) := by decide +kernel
theorem dX11_digit_1 : decode cX11_digit 1 = .ok (.iload_n 1, 1) := by decide +kernel
theorem dX11_digit_2 : decode cX11_digit 2 = .ok (.invokevirtual 149, 3) := by decide +kernel
theorem dX11_digit_5 : decode cX11_digit 5 = .ok (.getfield 159, 3) := by decide +kernel
theorem dX11_digit_8 : decode cX11_digit 8 = .ok (.ireturn, 1) := by decide +kernel
theorem dX11_channel_0 : decode cX11_channel 0 = .ok (.aload_n 0, 1) := by decide +kernel
theorem dX11_channel_1 : decode cX11_channel 1 = .ok (.iload_n 1, 1) := by decide +kernel
theorem dX11_channel_2 : decode cX11_channel 2 = .ok (.invokevirtual 149, 3) := by decide +kernel
theorem dX11_channel_5 : decode cX11_channel 5 = .ok (.getfield 162, 3) := by decide +kernel
theorem dX11_channel_8 : decode cX11_channel 8 = .ok (.ireturn, 1) := by decide +kernel
theorem dX11_power_0 : decode cX11_power 0 = .ok (.aload_n 0, 1) := by decide +kernel
theorem dX11_power_1 : decode cX11_power 1 = .ok (.iload_n 1, 1) := by decide +kernel
theorem dX11_power_2 : decode cX11_power 2 = .ok (.invokevirtual 149, 3) := by decide +kernel
theorem dX11_power_5 : decode cX11_power 5 = .ok (.getfield 165, 3) := by decide +kernel
theorem dX11_power_8 : decode cX11_power 8 = .ok (.ireturn, 1) := by decide +kernel
theorem dX11_isSpeaking_0 : decode cX11_isSpeaking 0 = .ok (.aload_n 0, 1) := by decide +kernel
theorem dX11_isSpeaking_1 : decode cX11_isSpeaking 1 = .ok (.iload_n 1, 1) := by decide +kernel
theorem dX11_isSpeaking_2 : decode cX11_isSpeaking 2 = .ok (.invokevirtual 149, 3) := by decide +kernel
theorem dX11_isSpeaking_5 : decode cX11_isSpeaking 5 = .ok (.getfield 168, 3) := by decide +kernel
theorem dX11_isSpeaking_8 : decode cX11_isSpeaking 8 = .ok (.getstatic 113, 3) := by decide +kernel
theorem dX11_isSpeaking_11 : decode cX11_isSpeaking 11 = .ok (.if_acmp .ne 7, 3) := by decide +kernel
theorem dX11_isSpeaking_14 : decode cX11_isSpeaking 14 = .ok (.iconst 1, 1) := by decide +kernel
theorem dX11_isSpeaking_15 : decode cX11_isSpeaking 15 = .ok (.goto 4, 3) := by decide +kernel
theorem dX11_isSpeaking_18 : decode cX11_isSpeaking 18 = .ok (.iconst 0, 1) := by decide +kernel
theorem dX11_isSpeaking_19 : decode cX11_isSpeaking 19 = .ok (.ireturn, 1) := by decide +kernel
theorem dX11_isWaiting_0 : decode cX11_isWaiting 0 = .ok (.aload_n 0, 1) := by decide +kernel
theorem dX11_isWaiting_1 : decode cX11_isWaiting 1 = .ok (.iload_n 1, 1) := by decide +kernel
theorem dX11_isWaiting_2 : decode cX11_isWaiting 2 = .ok (.invokevirtual 149, 3) := by decide +kernel
theorem dX11_isWaiting_5 : decode cX11_isWaiting 5 = .ok (.getfield 168, 3) := by decide +kernel
theorem dX11_isWaiting_8 : decode cX11_isWaiting 8 = .ok (.getstatic 119, 3) := by decide +kernel
theorem dX11_isWaiting_11 : decode cX11_isWaiting 11 = .ok (.if_acmp .ne 7, 3) := by decide +kernel
theorem dX11_isWaiting_14 : decode cX11_isWaiting 14 = .ok (.iconst 1, 1) := by decide +kernel
theorem dX11_isWaiting_15 : decode cX11_isWaiting 15 = .ok (.goto 4, 3) := by decide +kernel
theorem dX11_isWaiting_18 : decode cX11_isWaiting 18 = .ok (.iconst 0, 1) := by decide +kernel
theorem dX11_isWaiting_19 : decode cX11_isWaiting 19 = .ok (.ireturn, 1) := by decide +kernel
theorem dX11_minutesSpoken_0 : decode cX11_minutesSpoken 0 = .ok (.aload_n 0, 1) := by decide +kernel
theorem dX11_minutesSpoken_1 : decode cX11_minutesSpoken 1 = .ok (.iload_n 1, 1) := by decide +kernel
theorem dX11_minutesSpoken_2 : decode cX11_minutesSpoken 2 = .ok (.invokevirtual 149, 3) := by decide +kernel
theorem dX11_minutesSpoken_5 : decode cX11_minutesSpoken 5 = .ok (.getfield 171, 3) := by decide +kernel
theorem dX11_minutesSpoken_8 : decode cX11_minutesSpoken 8 = .ok (.ireturn, 1) := by decide +kernel
theorem dX11_minutesReceived_0 : decode cX11_minutesReceived 0 = .ok (.aload_n 0, 1) := by decide +kernel
theorem dX11_minutesReceived_1 : decode cX11_minutesReceived 1 = .ok (.iload_n 1, 1) := by decide +kernel
theorem dX11_minutesReceived_2 : decode cX11_minutesReceived 2 = .ok (.invokevirtual 149, 3) := by decide +kernel
theorem dX11_minutesReceived_5 : decode cX11_minutesReceived 5 = .ok (.getfield 174, 3) := by decide +kernel
theorem dX11_minutesReceived_8 : decode cX11_minutesReceived 8 = .ok (.ireturn, 1) := by decide +kernel
theorem dX11_stationByMinutes_0 : decode cX11_stationByMinutes 0 = .ok (.aload_n 0, 1) := by decide +kernel
theorem dX11_stationByMinutes_1 : decode cX11_stationByMinutes 1 = .ok (.getfield 12, 3) := by decide +kernel
theorem dX11_stationByMinutes_4 : decode cX11_stationByMinutes 4 = .ok (.iload_n 1, 1) := by decide +kernel
theorem dX11_stationByMinutes_5 : decode cX11_stationByMinutes 5 = .ok (.invokevirtual 177, 3) := by decide +kernel
theorem dX11_stationByMinutes_8 : decode cX11_stationByMinutes 8 = .ok (.istore_n 2, 1) := by decide +kernel
theorem dX11_stationByMinutes_9 : decode cX11_stationByMinutes 9 = .ok (.iload_n 2, 1) := by decide +kernel
theorem dX11_stationByMinutes_10 : decode cX11_stationByMinutes 10 = .ok (.ifCond .ge 13, 3) := by decide +kernel
theorem dX11_stationByMinutes_13 : decode cX11_stationByMinutes 13 = .ok (.new 142, 3) := by decide +kernel
theorem dX11_stationByMinutes_16 : decode cX11_stationByMinutes 16 = .ok (.dup, 1) := by decide +kernel
theorem dX11_stationByMinutes_17 : decode cX11_stationByMinutes 17 = .ok (.ldc 180, 2) := by decide +kernel
theorem dX11_stationByMinutes_19 : decode cX11_stationByMinutes 19 = .ok (.invokespecial 146, 3) := by decide +kernel
theorem dX11_stationByMinutes_22 : decode cX11_stationByMinutes 22 = .ok (.athrow, 1) := by decide +kernel
theorem dX11_stationByMinutes_23 : decode cX11_stationByMinutes 23 = .ok (.iload_n 2, 1) := by decide +kernel
theorem dX11_stationByMinutes_24 : decode cX11_stationByMinutes 24 = .ok (.ireturn, 1) := by decide +kernel
theorem dX11_requireChannel_0 : decode cX11_requireChannel 0 = .ok (.iload_n 0, 1) := by decide +kernel
theorem dX11_requireChannel_1 : decode cX11_requireChannel 1 = .ok (.invokestatic 402, 3) := by decide +kernel
theorem dX11_requireChannel_4 : decode cX11_requireChannel 4 = .ok (.ifCond .ne 14, 3) := by decide +kernel
theorem dX11_requireChannel_7 : decode cX11_requireChannel 7 = .ok (.new 314, 3) := by decide +kernel
theorem dX11_requireChannel_10 : decode cX11_requireChannel 10 = .ok (.dup, 1) := by decide +kernel
theorem dX11_requireChannel_11 : decode cX11_requireChannel 11 = .ok (.ldc_w 405, 3) := by decide +kernel
theorem dX11_requireChannel_14 : decode cX11_requireChannel 14 = .ok (.invokespecial 318, 3) := by decide +kernel
theorem dX11_requireChannel_17 : decode cX11_requireChannel 17 = .ok (.athrow, 1) := by decide +kernel
theorem dX11_requireChannel_18 : decode cX11_requireChannel 18 = .ok (.return_, 1) := by decide +kernel
theorem dX11_speaker_0 : decode cX11_speaker 0 = .ok (.iload_n 1, 1) := by decide +kernel
theorem dX11_speaker_1 : decode cX11_speaker 1 = .ok (.invokestatic 182, 3) := by decide +kernel
theorem dX11_speaker_4 : decode cX11_speaker 4 = .ok (.aload_n 0, 1) := by decide +kernel
theorem dX11_speaker_5 : decode cX11_speaker 5 = .ok (.getfield 12, 3) := by decide +kernel
theorem dX11_speaker_8 : decode cX11_speaker 8 = .ok (.iload_n 1, 1) := by decide +kernel
theorem dX11_speaker_9 : decode cX11_speaker 9 = .ok (.invokevirtual 186, 3) := by decide +kernel
theorem dX11_speaker_12 : decode cX11_speaker 12 = .ok (.istore_n 2, 1) := by decide +kernel
theorem dX11_speaker_13 : decode cX11_speaker 13 = .ok (.iload_n 2, 1) := by decide +kernel
theorem dX11_speaker_14 : decode cX11_speaker 14 = .ok (.ifCond .ge 13, 3) := by decide +kernel
theorem dX11_speaker_17 : decode cX11_speaker 17 = .ok (.new 142, 3) := by decide +kernel
theorem dX11_speaker_20 : decode cX11_speaker 20 = .ok (.dup, 1) := by decide +kernel
theorem dX11_speaker_21 : decode cX11_speaker 21 = .ok (.ldc 189, 2) := by decide +kernel
theorem dX11_speaker_23 : decode cX11_speaker 23 = .ok (.invokespecial 146, 3) := by decide +kernel
theorem dX11_speaker_26 : decode cX11_speaker 26 = .ok (.athrow, 1) := by decide +kernel
theorem dX11_speaker_27 : decode cX11_speaker 27 = .ok (.iload_n 2, 1) := by decide +kernel
theorem dX11_speaker_28 : decode cX11_speaker 28 = .ok (.ireturn, 1) := by decide +kernel
theorem dX11_lineLength_0 : decode cX11_lineLength 0 = .ok (.iload_n 1, 1) := by decide +kernel
theorem dX11_lineLength_1 : decode cX11_lineLength 1 = .ok (.invokestatic 182, 3) := by decide +kernel
theorem dX11_lineLength_4 : decode cX11_lineLength 4 = .ok (.aload_n 0, 1) := by decide +kernel
theorem dX11_lineLength_5 : decode cX11_lineLength 5 = .ok (.getfield 12, 3) := by decide +kernel
theorem dX11_lineLength_8 : decode cX11_lineLength 8 = .ok (.iload_n 1, 1) := by decide +kernel
theorem dX11_lineLength_9 : decode cX11_lineLength 9 = .ok (.invokevirtual 191, 3) := by decide +kernel
theorem dX11_lineLength_12 : decode cX11_lineLength 12 = .ok (.ireturn, 1) := by decide +kernel
theorem dX11_waiting_0 : decode cX11_waiting 0 = .ok (.iload_n 1, 1) := by decide +kernel
theorem dX11_waiting_1 : decode cX11_waiting 1 = .ok (.invokestatic 182, 3) := by decide +kernel
theorem dX11_waiting_4 : decode cX11_waiting 4 = .ok (.aload_n 0, 1) := by decide +kernel
theorem dX11_waiting_5 : decode cX11_waiting 5 = .ok (.getfield 12, 3) := by decide +kernel
theorem dX11_waiting_8 : decode cX11_waiting 8 = .ok (.iload_n 1, 1) := by decide +kernel
theorem dX11_waiting_9 : decode cX11_waiting 9 = .ok (.iload_n 2, 1) := by decide +kernel
theorem dX11_waiting_10 : decode cX11_waiting 10 = .ok (.invokevirtual 194, 3) := by decide +kernel
theorem dX11_waiting_13 : decode cX11_waiting 13 = .ok (.istore_n 3, 1) := by decide +kernel
theorem dX11_waiting_14 : decode cX11_waiting 14 = .ok (.iload_n 3, 1) := by decide +kernel
theorem dX11_waiting_15 : decode cX11_waiting 15 = .ok (.ifCond .ge 13, 3) := by decide +kernel
theorem dX11_waiting_18 : decode cX11_waiting 18 = .ok (.new 142, 3) := by decide +kernel
theorem dX11_waiting_21 : decode cX11_waiting 21 = .ok (.dup, 1) := by decide +kernel
theorem dX11_waiting_22 : decode cX11_waiting 22 = .ok (.ldc 197, 2) := by decide +kernel
theorem dX11_waiting_24 : decode cX11_waiting 24 = .ok (.invokespecial 146, 3) := by decide +kernel
theorem dX11_waiting_27 : decode cX11_waiting 27 = .ok (.athrow, 1) := by decide +kernel
theorem dX11_waiting_28 : decode cX11_waiting 28 = .ok (.iload_n 3, 1) := by decide +kernel
theorem dX11_waiting_29 : decode cX11_waiting 29 = .ok (.ireturn, 1) := by decide +kernel
theorem dX11_minutesUntilTurn_0 : decode cX11_minutesUntilTurn 0 = .ok (.aload_n 0, 1) := by decide +kernel
theorem dX11_minutesUntilTurn_1 : decode cX11_minutesUntilTurn 1 = .ok (.getfield 12, 3) := by decide +kernel
theorem dX11_minutesUntilTurn_4 : decode cX11_minutesUntilTurn 4 = .ok (.iload_n 1, 1) := by decide +kernel
theorem dX11_minutesUntilTurn_5 : decode cX11_minutesUntilTurn 5 = .ok (.getstatic 119, 3) := by decide +kernel
theorem dX11_minutesUntilTurn_8 : decode cX11_minutesUntilTurn 8 = .ok (.invokevirtual 105, 3) := by decide +kernel
theorem dX11_minutesUntilTurn_11 : decode cX11_minutesUntilTurn 11 = .ok (.invokestatic 65, 3) := by decide +kernel
theorem dX11_minutesUntilTurn_14 : decode cX11_minutesUntilTurn 14 = .ok (.aload_n 0, 1) := by decide +kernel
theorem dX11_minutesUntilTurn_15 : decode cX11_minutesUntilTurn 15 = .ok (.getfield 12, 3) := by decide +kernel
theorem dX11_minutesUntilTurn_18 : decode cX11_minutesUntilTurn 18 = .ok (.iload_n 1, 1) := by decide +kernel
theorem dX11_minutesUntilTurn_19 : decode cX11_minutesUntilTurn 19 = .ok (.invokevirtual 199, 3) := by decide +kernel
theorem dX11_minutesUntilTurn_22 : decode cX11_minutesUntilTurn 22 = .ok (.ireturn, 1) := by decide +kernel
theorem dX11_simulatedMinutes_0 : decode cX11_simulatedMinutes 0 = .ok (.aload_n 0, 1) := by decide +kernel
theorem dX11_simulatedMinutes_1 : decode cX11_simulatedMinutes 1 = .ok (.getfield 16, 3) := by decide +kernel
theorem dX11_simulatedMinutes_4 : decode cX11_simulatedMinutes 4 = .ok (.aload_n 0, 1) := by decide +kernel
theorem dX11_simulatedMinutes_5 : decode cX11_simulatedMinutes 5 = .ok (.getfield 12, 3) := by decide +kernel
theorem dX11_simulatedMinutes_8 : decode cX11_simulatedMinutes 8 = .ok (.invokevirtual 344, 3) := by decide +kernel
theorem dX11_simulatedMinutes_11 : decode cX11_simulatedMinutes 11 = .ok (.iconst 1, 1) := by decide +kernel
theorem dX11_simulatedMinutes_12 : decode cX11_simulatedMinutes 12 = .ok (.istore_n 2, 1) := by decide +kernel
theorem dX11_simulatedMinutes_13 : decode cX11_simulatedMinutes 13 = .ok (.iload_n 2, 1) := by decide +kernel
theorem dX11_simulatedMinutes_14 : decode cX11_simulatedMinutes 14 = .ok (.sipush 480, 3) := by decide +kernel
theorem dX11_simulatedMinutes_17 : decode cX11_simulatedMinutes 17 = .ok (.if_icmp .gt 37, 3) := by decide +kernel
theorem dX11_simulatedMinutes_20 : decode cX11_simulatedMinutes 20 = .ok (.aload_n 0, 1) := by decide +kernel
theorem dX11_simulatedMinutes_21 : decode cX11_simulatedMinutes 21 = .ok (.getfield 16, 3) := by decide +kernel
theorem dX11_simulatedMinutes_24 : decode cX11_simulatedMinutes 24 = .ok (.invokevirtual 418, 3) := by decide +kernel
theorem dX11_simulatedMinutes_27 : decode cX11_simulatedMinutes 27 = .ok (.pop, 1) := by decide +kernel
theorem dX11_simulatedMinutes_28 : decode cX11_simulatedMinutes 28 = .ok (.aload_n 0, 1) := by decide +kernel
theorem dX11_simulatedMinutes_29 : decode cX11_simulatedMinutes 29 = .ok (.getfield 16, 3) := by decide +kernel
theorem dX11_simulatedMinutes_32 : decode cX11_simulatedMinutes 32 = .ok (.getfield 308, 3) := by decide +kernel
theorem dX11_simulatedMinutes_35 : decode cX11_simulatedMinutes 35 = .ok (.iload_n 1, 1) := by decide +kernel
theorem dX11_simulatedMinutes_36 : decode cX11_simulatedMinutes 36 = .ok (.aaload, 1) := by decide +kernel
theorem dX11_simulatedMinutes_37 : decode cX11_simulatedMinutes 37 = .ok (.getfield 168, 3) := by decide +kernel
theorem dX11_simulatedMinutes_40 : decode cX11_simulatedMinutes 40 = .ok (.getstatic 113, 3) := by decide +kernel
theorem dX11_simulatedMinutes_43 : decode cX11_simulatedMinutes 43 = .ok (.if_acmp .ne 5, 3) := by decide +kernel
theorem dX11_simulatedMinutes_46 : decode cX11_simulatedMinutes 46 = .ok (.iload_n 2, 1) := by decide +kernel
theorem dX11_simulatedMinutes_47 : decode cX11_simulatedMinutes 47 = .ok (.ireturn, 1) := by decide +kernel
theorem dX11_simulatedMinutes_48 : decode cX11_simulatedMinutes 48 = .ok (.iinc 2 1, 3) := by decide +kernel
theorem dX11_simulatedMinutes_51 : decode cX11_simulatedMinutes 51 = .ok (.goto (-38), 3) := by decide +kernel
theorem dX11_simulatedMinutes_54 : decode cX11_simulatedMinutes 54 = .ok (.iconst (-1), 1) := by decide +kernel
theorem dX11_simulatedMinutes_55 : decode cX11_simulatedMinutes 55 = .ok (.ireturn, 1) := by decide +kernel
theorem dX11_minutesUntilTurnBySimulation_0 : decode cX11_minutesUntilTurnBySimulation 0 = .ok (.aload_n 0, 1) := by decide +kernel
theorem dX11_minutesUntilTurnBySimulation_1 : decode cX11_minutesUntilTurnBySimulation 1 = .ok (.getfield 12, 3) := by decide +kernel
theorem dX11_minutesUntilTurnBySimulation_4 : decode cX11_minutesUntilTurnBySimulation 4 = .ok (.iload_n 1, 1) := by decide +kernel
theorem dX11_minutesUntilTurnBySimulation_5 : decode cX11_minutesUntilTurnBySimulation 5 = .ok (.getstatic 119, 3) := by decide +kernel
theorem dX11_minutesUntilTurnBySimulation_8 : decode cX11_minutesUntilTurnBySimulation 8 = .ok (.invokevirtual 105, 3) := by decide +kernel
theorem dX11_minutesUntilTurnBySimulation_11 : decode cX11_minutesUntilTurnBySimulation 11 = .ok (.invokestatic 65, 3) := by decide +kernel
theorem dX11_minutesUntilTurnBySimulation_14 : decode cX11_minutesUntilTurnBySimulation 14 = .ok (.aload_n 0, 1) := by decide +kernel
theorem dX11_minutesUntilTurnBySimulation_15 : decode cX11_minutesUntilTurnBySimulation 15 = .ok (.iload_n 1, 1) := by decide +kernel
theorem dX11_minutesUntilTurnBySimulation_16 : decode cX11_minutesUntilTurnBySimulation 16 = .ok (.invokevirtual 202, 3) := by decide +kernel
theorem dX11_minutesUntilTurnBySimulation_19 : decode cX11_minutesUntilTurnBySimulation 19 = .ok (.ireturn, 1) := by decide +kernel
theorem dX11_canHear_0 : decode cX11_canHear 0 = .ok (.aload_n 0, 1) := by decide +kernel
theorem dX11_canHear_1 : decode cX11_canHear 1 = .ok (.iload_n 1, 1) := by decide +kernel
theorem dX11_canHear_2 : decode cX11_canHear 2 = .ok (.invokevirtual 149, 3) := by decide +kernel
theorem dX11_canHear_5 : decode cX11_canHear 5 = .ok (.aload_n 0, 1) := by decide +kernel
theorem dX11_canHear_6 : decode cX11_canHear 6 = .ok (.iload_n 2, 1) := by decide +kernel
theorem dX11_canHear_7 : decode cX11_canHear 7 = .ok (.invokevirtual 149, 3) := by decide +kernel
theorem dX11_canHear_10 : decode cX11_canHear 10 = .ok (.invokevirtual 205, 3) := by decide +kernel
theorem dX11_canHear_13 : decode cX11_canHear 13 = .ok (.ireturn, 1) := by decide +kernel
theorem dX11_isJammed_0 : decode cX11_isJammed 0 = .ok (.aload_n 0, 1) := by decide +kernel
theorem dX11_isJammed_1 : decode cX11_isJammed 1 = .ok (.getfield 12, 3) := by decide +kernel
theorem dX11_isJammed_4 : decode cX11_isJammed 4 = .ok (.aload_n 0, 1) := by decide +kernel
theorem dX11_isJammed_5 : decode cX11_isJammed 5 = .ok (.iload_n 1, 1) := by decide +kernel
theorem dX11_isJammed_6 : decode cX11_isJammed 6 = .ok (.invokevirtual 149, 3) := by decide +kernel
theorem dX11_isJammed_9 : decode cX11_isJammed 9 = .ok (.invokevirtual 209, 3) := by decide +kernel
theorem dX11_isJammed_12 : decode cX11_isJammed 12 = .ok (.ireturn, 1) := by decide +kernel
theorem dX11_jams_0 : decode cX11_jams 0 = .ok (.aload_n 0, 1) := by decide +kernel
theorem dX11_jams_1 : decode cX11_jams 1 = .ok (.getfield 12, 3) := by decide +kernel
theorem dX11_jams_4 : decode cX11_jams 4 = .ok (.invokevirtual 212, 3) := by decide +kernel
theorem dX11_jams_7 : decode cX11_jams 7 = .ok (.ireturn, 1) := by decide +kernel
theorem dX11_jamsByChannels_0 : decode cX11_jamsByChannels 0 = .ok (.aload_n 0, 1) := by decide +kernel
theorem dX11_jamsByChannels_1 : decode cX11_jamsByChannels 1 = .ok (.getfield 12, 3) := by decide +kernel
theorem dX11_jamsByChannels_4 : decode cX11_jamsByChannels 4 = .ok (.invokevirtual 216, 3) := by decide +kernel
theorem dX11_jamsByChannels_7 : decode cX11_jamsByChannels 7 = .ok (.ireturn, 1) := by decide +kernel
theorem dX11_requireHops_0 : decode cX11_requireHops 0 = .ok (.iload_n 0, 1) := by decide +kernel
theorem dX11_requireHops_1 : decode cX11_requireHops 1 = .ok (.ifCond .ge 14, 3) := by decide +kernel
theorem dX11_requireHops_4 : decode cX11_requireHops 4 = .ok (.new 142, 3) := by decide +kernel
theorem dX11_requireHops_7 : decode cX11_requireHops 7 = .ok (.dup, 1) := by decide +kernel
theorem dX11_requireHops_8 : decode cX11_requireHops 8 = .ok (.ldc_w 409, 3) := by decide +kernel
theorem dX11_requireHops_11 : decode cX11_requireHops 11 = .ok (.invokespecial 146, 3) := by decide +kernel
theorem dX11_requireHops_14 : decode cX11_requireHops 14 = .ok (.athrow, 1) := by decide +kernel
theorem dX11_requireHops_15 : decode cX11_requireHops 15 = .ok (.iload_n 0, 1) := by decide +kernel
theorem dX11_requireHops_16 : decode cX11_requireHops 16 = .ok (.ireturn, 1) := by decide +kernel
theorem dX11_hops_0 : decode cX11_hops 0 = .ok (.aload_n 0, 1) := by decide +kernel
theorem dX11_hops_1 : decode cX11_hops 1 = .ok (.iload_n 1, 1) := by decide +kernel
theorem dX11_hops_2 : decode cX11_hops 2 = .ok (.invokevirtual 219, 3) := by decide +kernel
theorem dX11_hops_5 : decode cX11_hops 5 = .ok (.aload_n 0, 1) := by decide +kernel
theorem dX11_hops_6 : decode cX11_hops 6 = .ok (.iload_n 2, 1) := by decide +kernel
theorem dX11_hops_7 : decode cX11_hops 7 = .ok (.invokevirtual 219, 3) := by decide +kernel
theorem dX11_hops_10 : decode cX11_hops 10 = .ok (.aload_n 0, 1) := by decide +kernel
theorem dX11_hops_11 : decode cX11_hops 11 = .ok (.getfield 36, 3) := by decide +kernel
theorem dX11_hops_14 : decode cX11_hops 14 = .ok (.aload_n 0, 1) := by decide +kernel
theorem dX11_hops_15 : decode cX11_hops 15 = .ok (.getfield 12, 3) := by decide +kernel
theorem dX11_hops_18 : decode cX11_hops 18 = .ok (.iload_n 1, 1) := by decide +kernel
theorem dX11_hops_19 : decode cX11_hops 19 = .ok (.iload_n 2, 1) := by decide +kernel
theorem dX11_hops_20 : decode cX11_hops 20 = .ok (.invokevirtual 222, 3) := by decide +kernel
theorem dX11_hops_23 : decode cX11_hops 23 = .ok (.invokestatic 226, 3) := by decide +kernel
theorem dX11_hops_26 : decode cX11_hops 26 = .ok (.ireturn, 1) := by decide +kernel
theorem dX11_hopsBySets_0 : decode cX11_hopsBySets 0 = .ok (.aload_n 0, 1) := by decide +kernel
theorem dX11_hopsBySets_1 : decode cX11_hopsBySets 1 = .ok (.iload_n 1, 1) := by decide +kernel
theorem dX11_hopsBySets_2 : decode cX11_hopsBySets 2 = .ok (.invokevirtual 219, 3) := by decide +kernel
theorem dX11_hopsBySets_5 : decode cX11_hopsBySets 5 = .ok (.aload_n 0, 1) := by decide +kernel
theorem dX11_hopsBySets_6 : decode cX11_hopsBySets 6 = .ok (.iload_n 2, 1) := by decide +kernel
theorem dX11_hopsBySets_7 : decode cX11_hopsBySets 7 = .ok (.invokevirtual 219, 3) := by decide +kernel
theorem dX11_hopsBySets_10 : decode cX11_hopsBySets 10 = .ok (.aload_n 0, 1) := by decide +kernel
theorem dX11_hopsBySets_11 : decode cX11_hopsBySets 11 = .ok (.getfield 36, 3) := by decide +kernel
theorem dX11_hopsBySets_14 : decode cX11_hopsBySets 14 = .ok (.aload_n 0, 1) := by decide +kernel
theorem dX11_hopsBySets_15 : decode cX11_hopsBySets 15 = .ok (.getfield 12, 3) := by decide +kernel
theorem dX11_hopsBySets_18 : decode cX11_hopsBySets 18 = .ok (.iload_n 1, 1) := by decide +kernel
theorem dX11_hopsBySets_19 : decode cX11_hopsBySets 19 = .ok (.iload_n 2, 1) := by decide +kernel
theorem dX11_hopsBySets_20 : decode cX11_hopsBySets 20 = .ok (.invokevirtual 229, 3) := by decide +kernel
theorem dX11_hopsBySets_23 : decode cX11_hopsBySets 23 = .ok (.invokestatic 226, 3) := by decide +kernel
theorem dX11_hopsBySets_26 : decode cX11_hopsBySets 26 = .ok (.ireturn, 1) := by decide +kernel
theorem dX11_reachable_0 : decode cX11_reachable 0 = .ok (.aload_n 0, 1) := by decide +kernel
theorem dX11_reachable_1 : decode cX11_reachable 1 = .ok (.iload_n 1, 1) := by decide +kernel
theorem dX11_reachable_2 : decode cX11_reachable 2 = .ok (.invokevirtual 219, 3) := by decide +kernel
theorem dX11_reachable_5 : decode cX11_reachable 5 = .ok (.aload_n 0, 1) := by decide +kernel
theorem dX11_reachable_6 : decode cX11_reachable 6 = .ok (.getfield 36, 3) := by decide +kernel
theorem dX11_reachable_9 : decode cX11_reachable 9 = .ok (.aload_n 0, 1) := by decide +kernel
theorem dX11_reachable_10 : decode cX11_reachable 10 = .ok (.getfield 12, 3) := by decide +kernel
theorem dX11_reachable_13 : decode cX11_reachable 13 = .ok (.iload_n 1, 1) := by decide +kernel
theorem dX11_reachable_14 : decode cX11_reachable 14 = .ok (.invokevirtual 232, 3) := by decide +kernel
theorem dX11_reachable_17 : decode cX11_reachable 17 = .ok (.ireturn, 1) := by decide +kernel
theorem dX11_logLength_0 : decode cX11_logLength 0 = .ok (.aload_n 0, 1) := by decide +kernel
theorem dX11_logLength_1 : decode cX11_logLength 1 = .ok (.getfield 12, 3) := by decide +kernel
theorem dX11_logLength_4 : decode cX11_logLength 4 = .ok (.getfield 236, 3) := by decide +kernel
theorem dX11_logLength_7 : decode cX11_logLength 7 = .ok (.getfield 240, 3) := by decide +kernel
theorem dX11_logLength_10 : decode cX11_logLength 10 = .ok (.ireturn, 1) := by decide +kernel
theorem dX11_requireEntry_0 : decode cX11_requireEntry 0 = .ok (.iload_n 1, 1) := by decide +kernel
theorem dX11_requireEntry_1 : decode cX11_requireEntry 1 = .ok (.ifCond .lt 17, 3) := by decide +kernel
theorem dX11_requireEntry_4 : decode cX11_requireEntry 4 = .ok (.iload_n 1, 1) := by decide +kernel
theorem dX11_requireEntry_5 : decode cX11_requireEntry 5 = .ok (.aload_n 0, 1) := by decide +kernel
theorem dX11_requireEntry_6 : decode cX11_requireEntry 6 = .ok (.getfield 12, 3) := by decide +kernel
theorem dX11_requireEntry_9 : decode cX11_requireEntry 9 = .ok (.getfield 236, 3) := by decide +kernel
theorem dX11_requireEntry_12 : decode cX11_requireEntry 12 = .ok (.getfield 240, 3) := by decide +kernel
theorem dX11_requireEntry_15 : decode cX11_requireEntry 15 = .ok (.if_icmp .lt 14, 3) := by decide +kernel
theorem dX11_requireEntry_18 : decode cX11_requireEntry 18 = .ok (.new 314, 3) := by decide +kernel
theorem dX11_requireEntry_21 : decode cX11_requireEntry 21 = .ok (.dup, 1) := by decide +kernel
theorem dX11_requireEntry_22 : decode cX11_requireEntry 22 = .ok (.ldc_w 407, 3) := by decide +kernel
theorem dX11_requireEntry_25 : decode cX11_requireEntry 25 = .ok (.invokespecial 318, 3) := by decide +kernel
theorem dX11_requireEntry_28 : decode cX11_requireEntry 28 = .ok (.athrow, 1) := by decide +kernel
theorem dX11_requireEntry_29 : decode cX11_requireEntry 29 = .ok (.return_, 1) := by decide +kernel
theorem dX11_logStation_0 : decode cX11_logStation 0 = .ok (.aload_n 0, 1) := by decide +kernel
theorem dX11_logStation_1 : decode cX11_logStation 1 = .ok (.iload_n 1, 1) := by decide +kernel
theorem dX11_logStation_2 : decode cX11_logStation 2 = .ok (.invokevirtual 243, 3) := by decide +kernel
theorem dX11_logStation_5 : decode cX11_logStation 5 = .ok (.aload_n 0, 1) := by decide +kernel
theorem dX11_logStation_6 : decode cX11_logStation 6 = .ok (.getfield 12, 3) := by decide +kernel
theorem dX11_logStation_9 : decode cX11_logStation 9 = .ok (.getfield 236, 3) := by decide +kernel
theorem dX11_logStation_12 : decode cX11_logStation 12 = .ok (.getfield 246, 3) := by decide +kernel
theorem dX11_logStation_15 : decode cX11_logStation 15 = .ok (.iload_n 1, 1) := by decide +kernel
theorem dX11_logStation_16 : decode cX11_logStation 16 = .ok (.iaload, 1) := by decide +kernel
theorem dX11_logStation_17 : decode cX11_logStation 17 = .ok (.ireturn, 1) := by decide +kernel
theorem dX11_logBegin_0 : decode cX11_logBegin 0 = .ok (.aload_n 0, 1) := by decide +kernel
theorem dX11_logBegin_1 : decode cX11_logBegin 1 = .ok (.iload_n 1, 1) := by decide +kernel
theorem dX11_logBegin_2 : decode cX11_logBegin 2 = .ok (.invokevirtual 243, 3) := by decide +kernel
theorem dX11_logBegin_5 : decode cX11_logBegin 5 = .ok (.aload_n 0, 1) := by decide +kernel
theorem dX11_logBegin_6 : decode cX11_logBegin 6 = .ok (.getfield 12, 3) := by decide +kernel
theorem dX11_logBegin_9 : decode cX11_logBegin 9 = .ok (.getfield 236, 3) := by decide +kernel
theorem dX11_logBegin_12 : decode cX11_logBegin 12 = .ok (.getfield 250, 3) := by decide +kernel
theorem dX11_logBegin_15 : decode cX11_logBegin 15 = .ok (.iload_n 1, 1) := by decide +kernel
theorem dX11_logBegin_16 : decode cX11_logBegin 16 = .ok (.iaload, 1) := by decide +kernel
theorem dX11_logBegin_17 : decode cX11_logBegin 17 = .ok (.ireturn, 1) := by decide +kernel
theorem dX11_logMinutes_0 : decode cX11_logMinutes 0 = .ok (.aload_n 0, 1) := by decide +kernel
theorem dX11_logMinutes_1 : decode cX11_logMinutes 1 = .ok (.iload_n 1, 1) := by decide +kernel
theorem dX11_logMinutes_2 : decode cX11_logMinutes 2 = .ok (.invokevirtual 243, 3) := by decide +kernel
theorem dX11_logMinutes_5 : decode cX11_logMinutes 5 = .ok (.aload_n 0, 1) := by decide +kernel
theorem dX11_logMinutes_6 : decode cX11_logMinutes 6 = .ok (.getfield 12, 3) := by decide +kernel
theorem dX11_logMinutes_9 : decode cX11_logMinutes 9 = .ok (.getfield 236, 3) := by decide +kernel
theorem dX11_logMinutes_12 : decode cX11_logMinutes 12 = .ok (.getfield 253, 3) := by decide +kernel
theorem dX11_logMinutes_15 : decode cX11_logMinutes 15 = .ok (.iload_n 1, 1) := by decide +kernel
theorem dX11_logMinutes_16 : decode cX11_logMinutes 16 = .ok (.iaload, 1) := by decide +kernel
theorem dX11_logMinutes_17 : decode cX11_logMinutes 17 = .ok (.ireturn, 1) := by decide +kernel
theorem dX11_time_0 : decode cX11_time 0 = .ok (.aload_n 0, 1) := by decide +kernel
theorem dX11_time_1 : decode cX11_time 1 = .ok (.getfield 12, 3) := by decide +kernel
theorem dX11_time_4 : decode cX11_time 4 = .ok (.getfield 256, 3) := by decide +kernel
theorem dX11_time_7 : decode cX11_time 7 = .ok (.ireturn, 1) := by decide +kernel
theorem dX11_turnLimit_0 : decode cX11_turnLimit 0 = .ok (.aload_n 0, 1) := by decide +kernel
theorem dX11_turnLimit_1 : decode cX11_turnLimit 1 = .ok (.getfield 12, 3) := by decide +kernel
theorem dX11_turnLimit_4 : decode cX11_turnLimit 4 = .ok (.getfield 259, 3) := by decide +kernel
theorem dX11_turnLimit_7 : decode cX11_turnLimit 7 = .ok (.ireturn, 1) := by decide +kernel
theorem dX11_hopsAgree_0 : decode cX11_hopsAgree 0 = .ok (.iconst 0, 1) := by decide +kernel
theorem dX11_hopsAgree_1 : decode cX11_hopsAgree 1 = .ok (.istore_n 1, 1) := by decide +kernel
theorem dX11_hopsAgree_2 : decode cX11_hopsAgree 2 = .ok (.iload_n 1, 1) := by decide +kernel
theorem dX11_hopsAgree_3 : decode cX11_hopsAgree 3 = .ok (.aload_n 0, 1) := by decide +kernel
theorem dX11_hopsAgree_4 : decode cX11_hopsAgree 4 = .ok (.getfield 12, 3) := by decide +kernel
theorem dX11_hopsAgree_7 : decode cX11_hopsAgree 7 = .ok (.getfield 135, 3) := by decide +kernel
theorem dX11_hopsAgree_10 : decode cX11_hopsAgree 10 = .ok (.if_icmp .ge 59, 3) := by decide +kernel
theorem dX11_hopsAgree_13 : decode cX11_hopsAgree 13 = .ok (.iconst 0, 1) := by decide +kernel
theorem dX11_hopsAgree_14 : decode cX11_hopsAgree 14 = .ok (.istore_n 2, 1) := by decide +kernel
theorem dX11_hopsAgree_15 : decode cX11_hopsAgree 15 = .ok (.iload_n 2, 1) := by decide +kernel
theorem dX11_hopsAgree_16 : decode cX11_hopsAgree 16 = .ok (.aload_n 0, 1) := by decide +kernel
theorem dX11_hopsAgree_17 : decode cX11_hopsAgree 17 = .ok (.getfield 12, 3) := by decide +kernel
theorem dX11_hopsAgree_20 : decode cX11_hopsAgree 20 = .ok (.getfield 135, 3) := by decide +kernel
theorem dX11_hopsAgree_23 : decode cX11_hopsAgree 23 = .ok (.if_icmp .ge 40, 3) := by decide +kernel
theorem dX11_hopsAgree_26 : decode cX11_hopsAgree 26 = .ok (.aload_n 0, 1) := by decide +kernel
theorem dX11_hopsAgree_27 : decode cX11_hopsAgree 27 = .ok (.getfield 36, 3) := by decide +kernel
theorem dX11_hopsAgree_30 : decode cX11_hopsAgree 30 = .ok (.aload_n 0, 1) := by decide +kernel
theorem dX11_hopsAgree_31 : decode cX11_hopsAgree 31 = .ok (.getfield 12, 3) := by decide +kernel
theorem dX11_hopsAgree_34 : decode cX11_hopsAgree 34 = .ok (.iload_n 1, 1) := by decide +kernel
theorem dX11_hopsAgree_35 : decode cX11_hopsAgree 35 = .ok (.iload_n 2, 1) := by decide +kernel
theorem dX11_hopsAgree_36 : decode cX11_hopsAgree 36 = .ok (.invokevirtual 222, 3) := by decide +kernel
theorem dX11_hopsAgree_39 : decode cX11_hopsAgree 39 = .ok (.aload_n 0, 1) := by decide +kernel
theorem dX11_hopsAgree_40 : decode cX11_hopsAgree 40 = .ok (.getfield 36, 3) := by decide +kernel
theorem dX11_hopsAgree_43 : decode cX11_hopsAgree 43 = .ok (.aload_n 0, 1) := by decide +kernel
theorem dX11_hopsAgree_44 : decode cX11_hopsAgree 44 = .ok (.getfield 12, 3) := by decide +kernel
theorem dX11_hopsAgree_47 : decode cX11_hopsAgree 47 = .ok (.iload_n 1, 1) := by decide +kernel
theorem dX11_hopsAgree_48 : decode cX11_hopsAgree 48 = .ok (.iload_n 2, 1) := by decide +kernel
theorem dX11_hopsAgree_49 : decode cX11_hopsAgree 49 = .ok (.invokevirtual 229, 3) := by decide +kernel
theorem dX11_hopsAgree_52 : decode cX11_hopsAgree 52 = .ok (.if_icmp .eq 5, 3) := by decide +kernel
theorem dX11_hopsAgree_55 : decode cX11_hopsAgree 55 = .ok (.iconst 0, 1) := by decide +kernel
theorem dX11_hopsAgree_56 : decode cX11_hopsAgree 56 = .ok (.ireturn, 1) := by decide +kernel
theorem dX11_hopsAgree_57 : decode cX11_hopsAgree 57 = .ok (.iinc 2 1, 3) := by decide +kernel
theorem dX11_hopsAgree_60 : decode cX11_hopsAgree 60 = .ok (.goto (-45), 3) := by decide +kernel
theorem dX11_hopsAgree_63 : decode cX11_hopsAgree 63 = .ok (.iinc 1 1, 3) := by decide +kernel
theorem dX11_hopsAgree_66 : decode cX11_hopsAgree 66 = .ok (.goto (-64), 3) := by decide +kernel
theorem dX11_hopsAgree_69 : decode cX11_hopsAgree 69 = .ok (.iconst 1, 1) := by decide +kernel
theorem dX11_hopsAgree_70 : decode cX11_hopsAgree 70 = .ok (.ireturn, 1) := by decide +kernel
theorem dX11_turnsAgree_0 : decode cX11_turnsAgree 0 = .ok (.iconst 0, 1) := by decide +kernel
theorem dX11_turnsAgree_1 : decode cX11_turnsAgree 1 = .ok (.istore_n 1, 1) := by decide +kernel
theorem dX11_turnsAgree_2 : decode cX11_turnsAgree 2 = .ok (.iload_n 1, 1) := by decide +kernel
theorem dX11_turnsAgree_3 : decode cX11_turnsAgree 3 = .ok (.aload_n 0, 1) := by decide +kernel
theorem dX11_turnsAgree_4 : decode cX11_turnsAgree 4 = .ok (.getfield 12, 3) := by decide +kernel
theorem dX11_turnsAgree_7 : decode cX11_turnsAgree 7 = .ok (.getfield 135, 3) := by decide +kernel
theorem dX11_turnsAgree_10 : decode cX11_turnsAgree 10 = .ok (.if_icmp .ge 45, 3) := by decide +kernel
theorem dX11_turnsAgree_13 : decode cX11_turnsAgree 13 = .ok (.aload_n 0, 1) := by decide +kernel
theorem dX11_turnsAgree_14 : decode cX11_turnsAgree 14 = .ok (.getfield 12, 3) := by decide +kernel
theorem dX11_turnsAgree_17 : decode cX11_turnsAgree 17 = .ok (.getfield 308, 3) := by decide +kernel
theorem dX11_turnsAgree_20 : decode cX11_turnsAgree 20 = .ok (.iload_n 1, 1) := by decide +kernel
theorem dX11_turnsAgree_21 : decode cX11_turnsAgree 21 = .ok (.aaload, 1) := by decide +kernel
theorem dX11_turnsAgree_22 : decode cX11_turnsAgree 22 = .ok (.getfield 168, 3) := by decide +kernel
theorem dX11_turnsAgree_25 : decode cX11_turnsAgree 25 = .ok (.getstatic 119, 3) := by decide +kernel
theorem dX11_turnsAgree_28 : decode cX11_turnsAgree 28 = .ok (.if_acmp .ne 21, 3) := by decide +kernel
theorem dX11_turnsAgree_31 : decode cX11_turnsAgree 31 = .ok (.aload_n 0, 1) := by decide +kernel
theorem dX11_turnsAgree_32 : decode cX11_turnsAgree 32 = .ok (.getfield 12, 3) := by decide +kernel
theorem dX11_turnsAgree_35 : decode cX11_turnsAgree 35 = .ok (.iload_n 1, 1) := by decide +kernel
theorem dX11_turnsAgree_36 : decode cX11_turnsAgree 36 = .ok (.invokevirtual 199, 3) := by decide +kernel
theorem dX11_turnsAgree_39 : decode cX11_turnsAgree 39 = .ok (.aload_n 0, 1) := by decide +kernel
theorem dX11_turnsAgree_40 : decode cX11_turnsAgree 40 = .ok (.iload_n 1, 1) := by decide +kernel
theorem dX11_turnsAgree_41 : decode cX11_turnsAgree 41 = .ok (.invokevirtual 202, 3) := by decide +kernel
theorem dX11_turnsAgree_44 : decode cX11_turnsAgree 44 = .ok (.if_icmp .eq 5, 3) := by decide +kernel
theorem dX11_turnsAgree_47 : decode cX11_turnsAgree 47 = .ok (.iconst 0, 1) := by decide +kernel
theorem dX11_turnsAgree_48 : decode cX11_turnsAgree 48 = .ok (.ireturn, 1) := by decide +kernel
theorem dX11_turnsAgree_49 : decode cX11_turnsAgree 49 = .ok (.iinc 1 1, 3) := by decide +kernel
theorem dX11_turnsAgree_52 : decode cX11_turnsAgree 52 = .ok (.goto (-50), 3) := by decide +kernel
theorem dX11_turnsAgree_55 : decode cX11_turnsAgree 55 = .ok (.iconst 1, 1) := by decide +kernel
theorem dX11_turnsAgree_56 : decode cX11_turnsAgree 56 = .ok (.ireturn, 1) := by decide +kernel
theorem dX11_isConsistent_0 : decode cX11_isConsistent 0 = .ok (.aload_n 0, 1) := by decide +kernel
theorem dX11_isConsistent_1 : decode cX11_isConsistent 1 = .ok (.invokevirtual 275, 3) := by decide +kernel
theorem dX11_isConsistent_4 : decode cX11_isConsistent 4 = .ok (.ifCond .eq 41, 3) := by decide +kernel
theorem dX11_isConsistent_7 : decode cX11_isConsistent 7 = .ok (.aload_n 0, 1) := by decide +kernel
theorem dX11_isConsistent_8 : decode cX11_isConsistent 8 = .ok (.getfield 12, 3) := by decide +kernel
theorem dX11_isConsistent_11 : decode cX11_isConsistent 11 = .ok (.invokevirtual 212, 3) := by decide +kernel
theorem dX11_isConsistent_14 : decode cX11_isConsistent 14 = .ok (.aload_n 0, 1) := by decide +kernel
theorem dX11_isConsistent_15 : decode cX11_isConsistent 15 = .ok (.getfield 12, 3) := by decide +kernel
theorem dX11_isConsistent_18 : decode cX11_isConsistent 18 = .ok (.invokevirtual 216, 3) := by decide +kernel
theorem dX11_isConsistent_21 : decode cX11_isConsistent 21 = .ok (.if_icmp .ne 24, 3) := by decide +kernel
theorem dX11_isConsistent_24 : decode cX11_isConsistent 24 = .ok (.aload_n 0, 1) := by decide +kernel
theorem dX11_isConsistent_25 : decode cX11_isConsistent 25 = .ok (.invokevirtual 279, 3) := by decide +kernel
theorem dX11_isConsistent_28 : decode cX11_isConsistent 28 = .ok (.ifCond .eq 17, 3) := by decide +kernel
theorem dX11_isConsistent_31 : decode cX11_isConsistent 31 = .ok (.aload_n 0, 1) := by decide +kernel
theorem dX11_isConsistent_32 : decode cX11_isConsistent 32 = .ok (.getfield 12, 3) := by decide +kernel
theorem dX11_isConsistent_35 : decode cX11_isConsistent 35 = .ok (.invokevirtual 282, 3) := by decide +kernel
theorem dX11_isConsistent_38 : decode cX11_isConsistent 38 = .ok (.ifCond .eq 7, 3) := by decide +kernel
theorem dX11_isConsistent_41 : decode cX11_isConsistent 41 = .ok (.iconst 1, 1) := by decide +kernel
theorem dX11_isConsistent_42 : decode cX11_isConsistent 42 = .ok (.goto 4, 3) := by decide +kernel
theorem dX11_isConsistent_45 : decode cX11_isConsistent 45 = .ok (.iconst 0, 1) := by decide +kernel
theorem dX11_isConsistent_46 : decode cX11_isConsistent 46 = .ok (.ireturn, 1) := by decide +kernel
theorem dX11_writeStation_0 : decode cX11_writeStation 0 = .ok (.aload_n 0, 1) := by decide +kernel
theorem dX11_writeStation_1 : decode cX11_writeStation 1 = .ok (.iload_n 1, 1) := by decide +kernel
theorem dX11_writeStation_2 : decode cX11_writeStation 2 = .ok (.invokevirtual 149, 3) := by decide +kernel
theorem dX11_writeStation_5 : decode cX11_writeStation 5 = .ok (.astore_n 2, 1) := by decide +kernel
theorem dX11_writeStation_6 : decode cX11_writeStation 6 = .ok (.aload_n 0, 1) := by decide +kernel
theorem dX11_writeStation_7 : decode cX11_writeStation 7 = .ok (.getfield 50, 3) := by decide +kernel
theorem dX11_writeStation_10 : decode cX11_writeStation 10 = .ok (.iconst 0, 1) := by decide +kernel
theorem dX11_writeStation_11 : decode cX11_writeStation 11 = .ok (.invokevirtual 285, 3) := by decide +kernel
theorem dX11_writeStation_14 : decode cX11_writeStation 14 = .ok (.aload_n 0, 1) := by decide +kernel
theorem dX11_writeStation_15 : decode cX11_writeStation 15 = .ok (.aload_n 2, 1) := by decide +kernel
theorem dX11_writeStation_16 : decode cX11_writeStation 16 = .ok (.invokevirtual 288, 3) := by decide +kernel
theorem dX11_writeStation_19 : decode cX11_writeStation 19 = .ok (.aload_n 0, 1) := by decide +kernel
theorem dX11_writeStation_20 : decode cX11_writeStation 20 = .ok (.getfield 50, 3) := by decide +kernel
theorem dX11_writeStation_23 : decode cX11_writeStation 23 = .ok (.bipush 64, 2) := by decide +kernel
theorem dX11_writeStation_25 : decode cX11_writeStation 25 = .ok (.invokevirtual 292, 3) := by decide +kernel
theorem dX11_writeStation_28 : decode cX11_writeStation 28 = .ok (.aload_n 2, 1) := by decide +kernel
theorem dX11_writeStation_29 : decode cX11_writeStation 29 = .ok (.getfield 296, 3) := by decide +kernel
theorem dX11_writeStation_32 : decode cX11_writeStation 32 = .ok (.invokevirtual 299, 3) := by decide +kernel
theorem dX11_writeStation_35 : decode cX11_writeStation 35 = .ok (.bipush 44, 2) := by decide +kernel
theorem dX11_writeStation_37 : decode cX11_writeStation 37 = .ok (.invokevirtual 292, 3) := by decide +kernel
theorem dX11_writeStation_40 : decode cX11_writeStation 40 = .ok (.aload_n 2, 1) := by decide +kernel
theorem dX11_writeStation_41 : decode cX11_writeStation 41 = .ok (.getfield 302, 3) := by decide +kernel
theorem dX11_writeStation_44 : decode cX11_writeStation 44 = .ok (.invokevirtual 299, 3) := by decide +kernel
theorem dX11_writeStation_47 : decode cX11_writeStation 47 = .ok (.pop, 1) := by decide +kernel
theorem dX11_writeStation_48 : decode cX11_writeStation 48 = .ok (.aload_n 0, 1) := by decide +kernel
theorem dX11_writeStation_49 : decode cX11_writeStation 49 = .ok (.getfield 50, 3) := by decide +kernel
theorem dX11_writeStation_52 : decode cX11_writeStation 52 = .ok (.bipush 35, 2) := by decide +kernel
theorem dX11_writeStation_54 : decode cX11_writeStation 54 = .ok (.invokevirtual 292, 3) := by decide +kernel
theorem dX11_writeStation_57 : decode cX11_writeStation 57 = .ok (.aload_n 2, 1) := by decide +kernel
theorem dX11_writeStation_58 : decode cX11_writeStation 58 = .ok (.getfield 162, 3) := by decide +kernel
theorem dX11_writeStation_61 : decode cX11_writeStation 61 = .ok (.invokevirtual 299, 3) := by decide +kernel
theorem dX11_writeStation_64 : decode cX11_writeStation 64 = .ok (.pop, 1) := by decide +kernel
theorem dX11_writeStation_65 : decode cX11_writeStation 65 = .ok (.aload_n 2, 1) := by decide +kernel
theorem dX11_writeStation_66 : decode cX11_writeStation 66 = .ok (.getfield 168, 3) := by decide +kernel
theorem dX11_writeStation_69 : decode cX11_writeStation 69 = .ok (.getstatic 113, 3) := by decide +kernel
theorem dX11_writeStation_72 : decode cX11_writeStation 72 = .ok (.if_acmp .ne 16, 3) := by decide +kernel
theorem dX11_writeStation_75 : decode cX11_writeStation 75 = .ok (.aload_n 0, 1) := by decide +kernel
theorem dX11_writeStation_76 : decode cX11_writeStation 76 = .ok (.getfield 50, 3) := by decide +kernel
theorem dX11_writeStation_79 : decode cX11_writeStation 79 = .ok (.bipush 33, 2) := by decide +kernel
theorem dX11_writeStation_81 : decode cX11_writeStation 81 = .ok (.invokevirtual 292, 3) := by decide +kernel
theorem dX11_writeStation_84 : decode cX11_writeStation 84 = .ok (.pop, 1) := by decide +kernel
theorem dX11_writeStation_85 : decode cX11_writeStation 85 = .ok (.goto 23, 3) := by decide +kernel
theorem dX11_writeStation_88 : decode cX11_writeStation 88 = .ok (.aload_n 2, 1) := by decide +kernel
theorem dX11_writeStation_89 : decode cX11_writeStation 89 = .ok (.getfield 168, 3) := by decide +kernel
theorem dX11_writeStation_92 : decode cX11_writeStation 92 = .ok (.getstatic 119, 3) := by decide +kernel
theorem dX11_writeStation_95 : decode cX11_writeStation 95 = .ok (.if_acmp .ne 13, 3) := by decide +kernel
theorem dX11_writeStation_98 : decode cX11_writeStation 98 = .ok (.aload_n 0, 1) := by decide +kernel
theorem dX11_writeStation_99 : decode cX11_writeStation 99 = .ok (.getfield 50, 3) := by decide +kernel
theorem dX11_writeStation_102 : decode cX11_writeStation 102 = .ok (.bipush 63, 2) := by decide +kernel
theorem dX11_writeStation_104 : decode cX11_writeStation 104 = .ok (.invokevirtual 292, 3) := by decide +kernel
theorem dX11_writeStation_107 : decode cX11_writeStation 107 = .ok (.pop, 1) := by decide +kernel
theorem dX11_writeStation_108 : decode cX11_writeStation 108 = .ok (.aload_n 0, 1) := by decide +kernel
theorem dX11_writeStation_109 : decode cX11_writeStation 109 = .ok (.getfield 50, 3) := by decide +kernel
theorem dX11_writeStation_112 : decode cX11_writeStation 112 = .ok (.invokevirtual 305, 3) := by decide +kernel
theorem dX11_writeStation_115 : decode cX11_writeStation 115 = .ok (.ireturn, 1) := by decide +kernel
theorem dX11_writeChannel_0 : decode cX11_writeChannel 0 = .ok (.iload_n 1, 1) := by decide +kernel
theorem dX11_writeChannel_1 : decode cX11_writeChannel 1 = .ok (.invokestatic 182, 3) := by decide +kernel
theorem dX11_writeChannel_4 : decode cX11_writeChannel 4 = .ok (.aload_n 0, 1) := by decide +kernel
theorem dX11_writeChannel_5 : decode cX11_writeChannel 5 = .ok (.getfield 50, 3) := by decide +kernel
theorem dX11_writeChannel_8 : decode cX11_writeChannel 8 = .ok (.iconst 0, 1) := by decide +kernel
theorem dX11_writeChannel_9 : decode cX11_writeChannel 9 = .ok (.invokevirtual 285, 3) := by decide +kernel
theorem dX11_writeChannel_12 : decode cX11_writeChannel 12 = .ok (.aload_n 0, 1) := by decide +kernel
theorem dX11_writeChannel_13 : decode cX11_writeChannel 13 = .ok (.getfield 12, 3) := by decide +kernel
theorem dX11_writeChannel_16 : decode cX11_writeChannel 16 = .ok (.iload_n 1, 1) := by decide +kernel
theorem dX11_writeChannel_17 : decode cX11_writeChannel 17 = .ok (.invokevirtual 186, 3) := by decide +kernel
theorem dX11_writeChannel_20 : decode cX11_writeChannel 20 = .ok (.istore_n 2, 1) := by decide +kernel
theorem dX11_writeChannel_21 : decode cX11_writeChannel 21 = .ok (.iload_n 2, 1) := by decide +kernel
theorem dX11_writeChannel_22 : decode cX11_writeChannel 22 = .ok (.ifCond .lt 21, 3) := by decide +kernel
theorem dX11_writeChannel_25 : decode cX11_writeChannel 25 = .ok (.aload_n 0, 1) := by decide +kernel
theorem dX11_writeChannel_26 : decode cX11_writeChannel 26 = .ok (.aload_n 0, 1) := by decide +kernel
theorem dX11_writeChannel_27 : decode cX11_writeChannel 27 = .ok (.getfield 12, 3) := by decide +kernel
theorem dX11_writeChannel_30 : decode cX11_writeChannel 30 = .ok (.getfield 308, 3) := by decide +kernel
theorem dX11_writeChannel_33 : decode cX11_writeChannel 33 = .ok (.iload_n 2, 1) := by decide +kernel
theorem dX11_writeChannel_34 : decode cX11_writeChannel 34 = .ok (.aaload, 1) := by decide +kernel
theorem dX11_writeChannel_35 : decode cX11_writeChannel 35 = .ok (.invokevirtual 288, 3) := by decide +kernel
theorem dX11_writeChannel_38 : decode cX11_writeChannel 38 = .ok (.aload_n 0, 1) := by decide +kernel
theorem dX11_writeChannel_39 : decode cX11_writeChannel 39 = .ok (.iload_n 1, 1) := by decide +kernel
theorem dX11_writeChannel_40 : decode cX11_writeChannel 40 = .ok (.invokevirtual 311, 3) := by decide +kernel
theorem dX11_writeChannel_43 : decode cX11_writeChannel 43 = .ok (.aload_n 0, 1) := by decide +kernel
theorem dX11_writeChannel_44 : decode cX11_writeChannel 44 = .ok (.getfield 50, 3) := by decide +kernel
theorem dX11_writeChannel_47 : decode cX11_writeChannel 47 = .ok (.invokevirtual 305, 3) := by decide +kernel
theorem dX11_writeChannel_50 : decode cX11_writeChannel 50 = .ok (.ireturn, 1) := by decide +kernel
theorem dX11_charAt_0 : decode cX11_charAt 0 = .ok (.iload_n 1, 1) := by decide +kernel
theorem dX11_charAt_1 : decode cX11_charAt 1 = .ok (.ifCond .lt 14, 3) := by decide +kernel
theorem dX11_charAt_4 : decode cX11_charAt 4 = .ok (.iload_n 1, 1) := by decide +kernel
theorem dX11_charAt_5 : decode cX11_charAt 5 = .ok (.aload_n 0, 1) := by decide +kernel
theorem dX11_charAt_6 : decode cX11_charAt 6 = .ok (.getfield 50, 3) := by decide +kernel
theorem dX11_charAt_9 : decode cX11_charAt 9 = .ok (.invokevirtual 305, 3) := by decide +kernel
theorem dX11_charAt_12 : decode cX11_charAt 12 = .ok (.if_icmp .lt 14, 3) := by decide +kernel
theorem dX11_charAt_15 : decode cX11_charAt 15 = .ok (.new 314, 3) := by decide +kernel
theorem dX11_charAt_18 : decode cX11_charAt 18 = .ok (.dup, 1) := by decide +kernel
theorem dX11_charAt_19 : decode cX11_charAt 19 = .ok (.ldc_w 316, 3) := by decide +kernel
theorem dX11_charAt_22 : decode cX11_charAt 22 = .ok (.invokespecial 318, 3) := by decide +kernel
theorem dX11_charAt_25 : decode cX11_charAt 25 = .ok (.athrow, 1) := by decide +kernel
theorem dX11_charAt_26 : decode cX11_charAt 26 = .ok (.aload_n 0, 1) := by decide +kernel
theorem dX11_charAt_27 : decode cX11_charAt 27 = .ok (.getfield 50, 3) := by decide +kernel
theorem dX11_charAt_30 : decode cX11_charAt 30 = .ok (.iload_n 1, 1) := by decide +kernel
theorem dX11_charAt_31 : decode cX11_charAt 31 = .ok (.invokevirtual 319, 3) := by decide +kernel
theorem dX11_charAt_34 : decode cX11_charAt 34 = .ok (.ireturn, 1) := by decide +kernel
theorem dX11_type_0 : decode cX11_type 0 = .ok (.aload_n 0, 1) := by decide +kernel
theorem dX11_type_1 : decode cX11_type 1 = .ok (.getfield 43, 3) := by decide +kernel
theorem dX11_type_4 : decode cX11_type 4 = .ok (.getfield 323, 3) := by decide +kernel
theorem dX11_type_7 : decode cX11_type 7 = .ok (.bipush 60, 2) := by decide +kernel
theorem dX11_type_9 : decode cX11_type 9 = .ok (.if_icmp .lt 14, 3) := by decide +kernel
theorem dX11_type_12 : decode cX11_type 12 = .ok (.new 325, 3) := by decide +kernel
theorem dX11_type_15 : decode cX11_type 15 = .ok (.dup, 1) := by decide +kernel
theorem dX11_type_16 : decode cX11_type 16 = .ok (.ldc_w 327, 3) := by decide +kernel
theorem dX11_type_19 : decode cX11_type 19 = .ok (.invokespecial 329, 3) := by decide +kernel
theorem dX11_type_22 : decode cX11_type 22 = .ok (.athrow, 1) := by decide +kernel
theorem dX11_type_23 : decode cX11_type 23 = .ok (.aload_n 0, 1) := by decide +kernel
theorem dX11_type_24 : decode cX11_type 24 = .ok (.getfield 43, 3) := by decide +kernel
theorem dX11_type_27 : decode cX11_type 27 = .ok (.iload_n 1, 1) := by decide +kernel
theorem dX11_type_28 : decode cX11_type 28 = .ok (.invokevirtual 330, 3) := by decide +kernel
theorem dX11_type_31 : decode cX11_type 31 = .ok (.aload_n 0, 1) := by decide +kernel
theorem dX11_type_32 : decode cX11_type 32 = .ok (.getfield 43, 3) := by decide +kernel
theorem dX11_type_35 : decode cX11_type 35 = .ok (.getfield 323, 3) := by decide +kernel
theorem dX11_type_38 : decode cX11_type 38 = .ok (.ireturn, 1) := by decide +kernel
theorem dX11_run_0 : decode cX11_run 0 = .ok (.aload_n 0, 1) := by decide +kernel
theorem dX11_run_1 : decode cX11_run 1 = .ok (.getfield 43, 3) := by decide +kernel
theorem dX11_run_4 : decode cX11_run 4 = .ok (.invokevirtual 333, 3) := by decide +kernel
theorem dX11_run_7 : decode cX11_run 7 = .ok (.istore_n 1, 1) := by decide +kernel
theorem dX11_run_8 : decode cX11_run 8 = .ok (.aload_n 0, 1) := by decide +kernel
theorem dX11_run_9 : decode cX11_run 9 = .ok (.getfield 43, 3) := by decide +kernel
theorem dX11_run_12 : decode cX11_run 12 = .ok (.invokevirtual 336, 3) := by decide +kernel
theorem dX11_run_15 : decode cX11_run 15 = .ok (.iload_n 1, 1) := by decide +kernel
theorem dX11_run_16 : decode cX11_run 16 = .ok (.ifCond .lt 19, 3) := by decide +kernel
theorem dX11_run_19 : decode cX11_run 19 = .ok (.aload_n 0, 1) := by decide +kernel
theorem dX11_run_20 : decode cX11_run 20 = .ok (.iload_n 1, 1) := by decide +kernel
theorem dX11_run_21 : decode cX11_run 21 = .ok (.putfield 54, 3) := by decide +kernel
theorem dX11_run_24 : decode cX11_run 24 = .ok (.new 339, 3) := by decide +kernel
theorem dX11_run_27 : decode cX11_run 27 = .ok (.dup, 1) := by decide +kernel
theorem dX11_run_28 : decode cX11_run 28 = .ok (.ldc_w 341, 3) := by decide +kernel
theorem dX11_run_31 : decode cX11_run 31 = .ok (.invokespecial 343, 3) := by decide +kernel
theorem dX11_run_34 : decode cX11_run 34 = .ok (.athrow, 1) := by decide +kernel
theorem dX11_run_35 : decode cX11_run 35 = .ok (.aload_n 0, 1) := by decide +kernel
theorem dX11_run_36 : decode cX11_run 36 = .ok (.getfield 16, 3) := by decide +kernel
theorem dX11_run_39 : decode cX11_run 39 = .ok (.aload_n 0, 1) := by decide +kernel
theorem dX11_run_40 : decode cX11_run 40 = .ok (.getfield 12, 3) := by decide +kernel
theorem dX11_run_43 : decode cX11_run 43 = .ok (.invokevirtual 344, 3) := by decide +kernel
theorem dX11_run_46 : decode cX11_run 46 = .ok (.iconst 0, 1) := by decide +kernel
theorem dX11_run_47 : decode cX11_run 47 = .ok (.istore_n 2, 1) := by decide +kernel
theorem dX11_run_48 : decode cX11_run 48 = .ok (.iload_n 2, 1) := by decide +kernel
theorem dX11_run_49 : decode cX11_run 49 = .ok (.aload_n 0, 1) := by decide +kernel
theorem dX11_run_50 : decode cX11_run 50 = .ok (.getfield 43, 3) := by decide +kernel
theorem dX11_run_53 : decode cX11_run 53 = .ok (.getfield 347, 3) := by decide +kernel
theorem dX11_run_56 : decode cX11_run 56 = .ok (.if_icmp .ge 44, 3) := by decide +kernel
theorem dX11_run_59 : decode cX11_run 59 = .ok (.aload_n 0, 1) := by decide +kernel
theorem dX11_run_60 : decode cX11_run 60 = .ok (.getfield 43, 3) := by decide +kernel
theorem dX11_run_63 : decode cX11_run 63 = .ok (.getfield 350, 3) := by decide +kernel
theorem dX11_run_66 : decode cX11_run 66 = .ok (.iload_n 2, 1) := by decide +kernel
theorem dX11_run_67 : decode cX11_run 67 = .ok (.aaload, 1) := by decide +kernel
theorem dX11_run_68 : decode cX11_run 68 = .ok (.aload_n 0, 1) := by decide +kernel
theorem dX11_run_69 : decode cX11_run 69 = .ok (.getfield 16, 3) := by decide +kernel
theorem dX11_run_72 : decode cX11_run 72 = .ok (.invokevirtual 354, 3) := by decide +kernel
theorem dX11_run_75 : decode cX11_run 75 = .ok (.ifCond .ne 19, 3) := by decide +kernel
theorem dX11_run_78 : decode cX11_run 78 = .ok (.aload_n 0, 1) := by decide +kernel
theorem dX11_run_79 : decode cX11_run 79 = .ok (.iload_n 2, 1) := by decide +kernel
theorem dX11_run_80 : decode cX11_run 80 = .ok (.putfield 58, 3) := by decide +kernel
theorem dX11_run_83 : decode cX11_run 83 = .ok (.new 360, 3) := by decide +kernel
theorem dX11_run_86 : decode cX11_run 86 = .ok (.dup, 1) := by decide +kernel
theorem dX11_run_87 : decode cX11_run 87 = .ok (.ldc_w 362, 3) := by decide +kernel
theorem dX11_run_90 : decode cX11_run 90 = .ok (.invokespecial 364, 3) := by decide +kernel
theorem dX11_run_93 : decode cX11_run 93 = .ok (.athrow, 1) := by decide +kernel
theorem dX11_run_94 : decode cX11_run 94 = .ok (.iinc 2 1, 3) := by decide +kernel
theorem dX11_run_97 : decode cX11_run 97 = .ok (.goto (-49), 3) := by decide +kernel
theorem dX11_run_100 : decode cX11_run 100 = .ok (.aload_n 0, 1) := by decide +kernel
theorem dX11_run_101 : decode cX11_run 101 = .ok (.getfield 29, 3) := by decide +kernel
theorem dX11_run_104 : decode cX11_run 104 = .ok (.aload_n 0, 1) := by decide +kernel
theorem dX11_run_105 : decode cX11_run 105 = .ok (.getfield 12, 3) := by decide +kernel
theorem dX11_run_108 : decode cX11_run 108 = .ok (.invokevirtual 69, 3) := by decide +kernel
theorem dX11_run_111 : decode cX11_run 111 = .ok (.aload_n 0, 1) := by decide +kernel
theorem dX11_run_112 : decode cX11_run 112 = .ok (.getfield 12, 3) := by decide +kernel
theorem dX11_run_115 : decode cX11_run 115 = .ok (.aload_n 0, 1) := by decide +kernel
theorem dX11_run_116 : decode cX11_run 116 = .ok (.getfield 16, 3) := by decide +kernel
theorem dX11_run_119 : decode cX11_run 119 = .ok (.invokevirtual 344, 3) := by decide +kernel
theorem dX11_run_122 : decode cX11_run 122 = .ok (.aload_n 0, 1) := by decide +kernel
theorem dX11_run_123 : decode cX11_run 123 = .ok (.getfield 43, 3) := by decide +kernel
theorem dX11_run_126 : decode cX11_run 126 = .ok (.getfield 347, 3) := by decide +kernel
theorem dX11_run_129 : decode cX11_run 129 = .ok (.ireturn, 1) := by decide +kernel
theorem dX11_errorPosition_0 : decode cX11_errorPosition 0 = .ok (.aload_n 0, 1) := by decide +kernel
theorem dX11_errorPosition_1 : decode cX11_errorPosition 1 = .ok (.getfield 54, 3) := by decide +kernel
theorem dX11_errorPosition_4 : decode cX11_errorPosition 4 = .ok (.ifCond .ge 14, 3) := by decide +kernel
theorem dX11_errorPosition_7 : decode cX11_errorPosition 7 = .ok (.new 142, 3) := by decide +kernel
theorem dX11_errorPosition_10 : decode cX11_errorPosition 10 = .ok (.dup, 1) := by decide +kernel
theorem dX11_errorPosition_11 : decode cX11_errorPosition 11 = .ok (.ldc_w 365, 3) := by decide +kernel
theorem dX11_errorPosition_14 : decode cX11_errorPosition 14 = .ok (.invokespecial 146, 3) := by decide +kernel
theorem dX11_errorPosition_17 : decode cX11_errorPosition 17 = .ok (.athrow, 1) := by decide +kernel
theorem dX11_errorPosition_18 : decode cX11_errorPosition 18 = .ok (.aload_n 0, 1) := by decide +kernel
theorem dX11_errorPosition_19 : decode cX11_errorPosition 19 = .ok (.getfield 54, 3) := by decide +kernel
theorem dX11_errorPosition_22 : decode cX11_errorPosition 22 = .ok (.ireturn, 1) := by decide +kernel
theorem dX11_failedCommand_0 : decode cX11_failedCommand 0 = .ok (.aload_n 0, 1) := by decide +kernel
theorem dX11_failedCommand_1 : decode cX11_failedCommand 1 = .ok (.getfield 58, 3) := by decide +kernel
theorem dX11_failedCommand_4 : decode cX11_failedCommand 4 = .ok (.ifCond .ge 14, 3) := by decide +kernel
theorem dX11_failedCommand_7 : decode cX11_failedCommand 7 = .ok (.new 142, 3) := by decide +kernel
theorem dX11_failedCommand_10 : decode cX11_failedCommand 10 = .ok (.dup, 1) := by decide +kernel
theorem dX11_failedCommand_11 : decode cX11_failedCommand 11 = .ok (.ldc_w 367, 3) := by decide +kernel
theorem dX11_failedCommand_14 : decode cX11_failedCommand 14 = .ok (.invokespecial 146, 3) := by decide +kernel
theorem dX11_failedCommand_17 : decode cX11_failedCommand 17 = .ok (.athrow, 1) := by decide +kernel
theorem dX11_failedCommand_18 : decode cX11_failedCommand 18 = .ok (.aload_n 0, 1) := by decide +kernel
theorem dX11_failedCommand_19 : decode cX11_failedCommand 19 = .ok (.getfield 58, 3) := by decide +kernel
theorem dX11_failedCommand_22 : decode cX11_failedCommand 22 = .ok (.ireturn, 1) := by decide +kernel
theorem dX11_undo_0 : decode cX11_undo 0 = .ok (.aload_n 0, 1) := by decide +kernel
theorem dX11_undo_1 : decode cX11_undo 1 = .ok (.getfield 29, 3) := by decide +kernel
theorem dX11_undo_4 : decode cX11_undo 4 = .ok (.getfield 369, 3) := by decide +kernel
theorem dX11_undo_7 : decode cX11_undo 7 = .ok (.ifCond .ne 14, 3) := by decide +kernel
theorem dX11_undo_10 : decode cX11_undo 10 = .ok (.new 325, 3) := by decide +kernel
theorem dX11_undo_13 : decode cX11_undo 13 = .ok (.dup, 1) := by decide +kernel
theorem dX11_undo_14 : decode cX11_undo 14 = .ok (.ldc_w 370, 3) := by decide +kernel
theorem dX11_undo_17 : decode cX11_undo 17 = .ok (.invokespecial 329, 3) := by decide +kernel
theorem dX11_undo_20 : decode cX11_undo 20 = .ok (.athrow, 1) := by decide +kernel
theorem dX11_undo_21 : decode cX11_undo 21 = .ok (.aload_n 0, 1) := by decide +kernel
theorem dX11_undo_22 : decode cX11_undo 22 = .ok (.getfield 29, 3) := by decide +kernel
theorem dX11_undo_25 : decode cX11_undo 25 = .ok (.aload_n 0, 1) := by decide +kernel
theorem dX11_undo_26 : decode cX11_undo 26 = .ok (.getfield 12, 3) := by decide +kernel
theorem dX11_undo_29 : decode cX11_undo 29 = .ok (.invokevirtual 372, 3) := by decide +kernel
theorem dX11_undo_32 : decode cX11_undo 32 = .ok (.aload_n 0, 1) := by decide +kernel
theorem dX11_undo_33 : decode cX11_undo 33 = .ok (.getfield 29, 3) := by decide +kernel
theorem dX11_undo_36 : decode cX11_undo 36 = .ok (.getfield 369, 3) := by decide +kernel
theorem dX11_undo_39 : decode cX11_undo 39 = .ok (.ireturn, 1) := by decide +kernel
theorem dX11_save_0 : decode cX11_save 0 = .ok (.aload_n 0, 1) := by decide +kernel
theorem dX11_save_1 : decode cX11_save 1 = .ok (.getfield 19, 3) := by decide +kernel
theorem dX11_save_4 : decode cX11_save 4 = .ok (.aload_n 0, 1) := by decide +kernel
theorem dX11_save_5 : decode cX11_save 5 = .ok (.getfield 12, 3) := by decide +kernel
theorem dX11_save_8 : decode cX11_save 8 = .ok (.invokevirtual 344, 3) := by decide +kernel
theorem dX11_save_11 : decode cX11_save 11 = .ok (.aload_n 0, 1) := by decide +kernel
theorem dX11_save_12 : decode cX11_save 12 = .ok (.iconst 1, 1) := by decide +kernel
theorem dX11_save_13 : decode cX11_save 13 = .ok (.putfield 22, 3) := by decide +kernel
theorem dX11_save_16 : decode cX11_save 16 = .ok (.aload_n 0, 1) := by decide +kernel
theorem dX11_save_17 : decode cX11_save 17 = .ok (.getfield 12, 3) := by decide +kernel
theorem dX11_save_20 : decode cX11_save 20 = .ok (.getfield 135, 3) := by decide +kernel
theorem dX11_save_23 : decode cX11_save 23 = .ok (.ireturn, 1) := by decide +kernel
theorem dX11_restore_0 : decode cX11_restore 0 = .ok (.aload_n 0, 1) := by decide +kernel
theorem dX11_restore_1 : decode cX11_restore 1 = .ok (.getfield 22, 3) := by decide +kernel
theorem dX11_restore_4 : decode cX11_restore 4 = .ok (.ifCond .ne 14, 3) := by decide +kernel
theorem dX11_restore_7 : decode cX11_restore 7 = .ok (.new 325, 3) := by decide +kernel
theorem dX11_restore_10 : decode cX11_restore 10 = .ok (.dup, 1) := by decide +kernel
theorem dX11_restore_11 : decode cX11_restore 11 = .ok (.ldc_w 375, 3) := by decide +kernel
theorem dX11_restore_14 : decode cX11_restore 14 = .ok (.invokespecial 329, 3) := by decide +kernel
theorem dX11_restore_17 : decode cX11_restore 17 = .ok (.athrow, 1) := by decide +kernel
theorem dX11_restore_18 : decode cX11_restore 18 = .ok (.aload_n 0, 1) := by decide +kernel
theorem dX11_restore_19 : decode cX11_restore 19 = .ok (.getfield 12, 3) := by decide +kernel
theorem dX11_restore_22 : decode cX11_restore 22 = .ok (.aload_n 0, 1) := by decide +kernel
theorem dX11_restore_23 : decode cX11_restore 23 = .ok (.getfield 19, 3) := by decide +kernel
theorem dX11_restore_26 : decode cX11_restore 26 = .ok (.invokevirtual 344, 3) := by decide +kernel
theorem dX11_restore_29 : decode cX11_restore 29 = .ok (.aload_n 0, 1) := by decide +kernel
theorem dX11_restore_30 : decode cX11_restore 30 = .ok (.getfield 29, 3) := by decide +kernel
theorem dX11_restore_33 : decode cX11_restore 33 = .ok (.invokevirtual 377, 3) := by decide +kernel
theorem dX11_restore_36 : decode cX11_restore 36 = .ok (.aload_n 0, 1) := by decide +kernel
theorem dX11_restore_37 : decode cX11_restore 37 = .ok (.getfield 12, 3) := by decide +kernel
theorem dX11_restore_40 : decode cX11_restore 40 = .ok (.getfield 135, 3) := by decide +kernel
theorem dX11_restore_43 : decode cX11_restore 43 = .ok (.ireturn, 1) := by decide +kernel
