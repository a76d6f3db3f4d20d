/-! ===== instructions of the wrappers ===== -/
theorem dL_addStation_0 : decode cL_addStation 0 = .ok (.aload 7, 2) := by decide +kernel
theorem dL_addStation_2 : decode cL_addStation 2 = .ok (.iconst 0, 1) := by decide +kernel
theorem dL_addStation_3 : decode cL_addStation 3 = .ok (.aload_n 0, 1) := by decide +kernel
theorem dL_addStation_4 : decode cL_addStation 4 = .ok (.iload_n 1, 1) := by decide +kernel
theorem dL_addStation_5 : decode cL_addStation 5 = .ok (.iload_n 2, 1) := by decide +kernel
theorem dL_addStation_6 : decode cL_addStation 6 = .ok (.iload_n 3, 1) := by decide +kernel
theorem dL_addStation_7 : decode cL_addStation 7 = .ok (.iload 4, 2) := by decide +kernel
theorem dL_addStation_9 : decode cL_addStation 9 = .ok (.iload 5, 2) := by decide +kernel
theorem dL_addStation_11 : decode cL_addStation 11 = .ok (.iload 6, 2) := by decide +kernel
theorem dL_addStation_13 : decode cL_addStation 13 = .ok (.invokevirtual 7, 3) := by decide +kernel
theorem dL_addStation_16 : decode cL_addStation 16 = .ok (.i2l, 1) := by decide +kernel
theorem dL_addStation_17 : decode cL_addStation 17 = .ok (.lastore, 1) := by decide +kernel
theorem dL_addStation_18 : decode cL_addStation 18 = .ok (.goto 15, 3) := by decide +kernel
theorem dL_addStation_21 : decode cL_addStation 21 = .ok (.astore 8, 2) := by decide +kernel
theorem dL_addStation_23 : decode cL_addStation 23 = .ok (.iconst 1, 1) := by decide +kernel
theorem dL_addStation_24 : decode cL_addStation 24 = .ok (.ireturn, 1) := by decide +kernel
theorem dL_addStation_25 : decode cL_addStation 25 = .ok (.astore 8, 2) := by decide +kernel
theorem dL_addStation_27 : decode cL_addStation 27 = .ok (.iconst 2, 1) := by decide +kernel
theorem dL_addStation_28 : decode cL_addStation 28 = .ok (.ireturn, 1) := by decide +kernel
theorem dL_addStation_29 : decode cL_addStation 29 = .ok (.astore 8, 2) := by decide +kernel
theorem dL_addStation_31 : decode cL_addStation 31 = .ok (.iconst 3, 1) := by decide +kernel
theorem dL_addStation_32 : decode cL_addStation 32 = .ok (.ireturn, 1) := by decide +kernel
theorem dL_addStation_33 : decode cL_addStation 33 = .ok (.iconst 0, 1) := by decide +kernel
theorem dL_addStation_34 : decode cL_addStation 34 = .ok (.ireturn, 1) := by decide +kernel
theorem dL_move_0 : decode cL_move 0 = .ok (.aload 4, 2) := by decide +kernel
theorem dL_move_2 : decode cL_move 2 = .ok (.iconst 0, 1) := by decide +kernel
theorem dL_move_3 : decode cL_move 3 = .ok (.aload_n 0, 1) := by decide +kernel
theorem dL_move_4 : decode cL_move 4 = .ok (.iload_n 1, 1) := by decide +kernel
theorem dL_move_5 : decode cL_move 5 = .ok (.iload_n 2, 1) := by decide +kernel
theorem dL_move_6 : decode cL_move 6 = .ok (.iload_n 3, 1) := by decide +kernel
theorem dL_move_7 : decode cL_move 7 = .ok (.invokevirtual 19, 3) := by decide +kernel
theorem dL_move_10 : decode cL_move 10 = .ok (.i2l, 1) := by decide +kernel
theorem dL_move_11 : decode cL_move 11 = .ok (.lastore, 1) := by decide +kernel
theorem dL_move_12 : decode cL_move 12 = .ok (.goto 11, 3) := by decide +kernel
theorem dL_move_15 : decode cL_move 15 = .ok (.astore 5, 2) := by decide +kernel
theorem dL_move_17 : decode cL_move 17 = .ok (.iconst 1, 1) := by decide +kernel
theorem dL_move_18 : decode cL_move 18 = .ok (.ireturn, 1) := by decide +kernel
theorem dL_move_19 : decode cL_move 19 = .ok (.astore 5, 2) := by decide +kernel
theorem dL_move_21 : decode cL_move 21 = .ok (.iconst 2, 1) := by decide +kernel
theorem dL_move_22 : decode cL_move 22 = .ok (.ireturn, 1) := by decide +kernel
theorem dL_move_23 : decode cL_move 23 = .ok (.iconst 0, 1) := by decide +kernel
theorem dL_move_24 : decode cL_move 24 = .ok (.ireturn, 1) := by decide +kernel
theorem dL_setPower_0 : decode cL_setPower 0 = .ok (.aload_n 3, 1) := by decide +kernel
theorem dL_setPower_1 : decode cL_setPower 1 = .ok (.iconst 0, 1) := by decide +kernel
theorem dL_setPower_2 : decode cL_setPower 2 = .ok (.aload_n 0, 1) := by decide +kernel
theorem dL_setPower_3 : decode cL_setPower 3 = .ok (.iload_n 1, 1) := by decide +kernel
theorem dL_setPower_4 : decode cL_setPower 4 = .ok (.iload_n 2, 1) := by decide +kernel
theorem dL_setPower_5 : decode cL_setPower 5 = .ok (.invokevirtual 25, 3) := by decide +kernel
theorem dL_setPower_8 : decode cL_setPower 8 = .ok (.i2l, 1) := by decide +kernel
theorem dL_setPower_9 : decode cL_setPower 9 = .ok (.lastore, 1) := by decide +kernel
theorem dL_setPower_10 : decode cL_setPower 10 = .ok (.goto 11, 3) := by decide +kernel
theorem dL_setPower_13 : decode cL_setPower 13 = .ok (.astore 4, 2) := by decide +kernel
theorem dL_setPower_15 : decode cL_setPower 15 = .ok (.iconst 1, 1) := by decide +kernel
theorem dL_setPower_16 : decode cL_setPower 16 = .ok (.ireturn, 1) := by decide +kernel
theorem dL_setPower_17 : decode cL_setPower 17 = .ok (.astore 4, 2) := by decide +kernel
theorem dL_setPower_19 : decode cL_setPower 19 = .ok (.iconst 2, 1) := by decide +kernel
theorem dL_setPower_20 : decode cL_setPower 20 = .ok (.ireturn, 1) := by decide +kernel
theorem dL_setPower_21 : decode cL_setPower 21 = .ok (.iconst 0, 1) := by decide +kernel
theorem dL_setPower_22 : decode cL_setPower 22 = .ok (.ireturn, 1) := by decide +kernel
theorem dL_tune_0 : decode cL_tune 0 = .ok (.aload_n 3, 1) := by decide +kernel
theorem dL_tune_1 : decode cL_tune 1 = .ok (.iconst 0, 1) := by decide +kernel
theorem dL_tune_2 : decode cL_tune 2 = .ok (.aload_n 0, 1) := by decide +kernel
theorem dL_tune_3 : decode cL_tune 3 = .ok (.iload_n 1, 1) := by decide +kernel
theorem dL_tune_4 : decode cL_tune 4 = .ok (.iload_n 2, 1) := by decide +kernel
theorem dL_tune_5 : decode cL_tune 5 = .ok (.invokevirtual 29, 3) := by decide +kernel
theorem dL_tune_8 : decode cL_tune 8 = .ok (.i2l, 1) := by decide +kernel
theorem dL_tune_9 : decode cL_tune 9 = .ok (.lastore, 1) := by decide +kernel
theorem dL_tune_10 : decode cL_tune 10 = .ok (.goto 15, 3) := by decide +kernel
theorem dL_tune_13 : decode cL_tune 13 = .ok (.astore 4, 2) := by decide +kernel
theorem dL_tune_15 : decode cL_tune 15 = .ok (.iconst 1, 1) := by decide +kernel
theorem dL_tune_16 : decode cL_tune 16 = .ok (.ireturn, 1) := by decide +kernel
theorem dL_tune_17 : decode cL_tune 17 = .ok (.astore 4, 2) := by decide +kernel
theorem dL_tune_19 : decode cL_tune 19 = .ok (.iconst 2, 1) := by decide +kernel
theorem dL_tune_20 : decode cL_tune 20 = .ok (.ireturn, 1) := by decide +kernel
theorem dL_tune_21 : decode cL_tune 21 = .ok (.astore 4, 2) := by decide +kernel
theorem dL_tune_23 : decode cL_tune 23 = .ok (.iconst 3, 1) := by decide +kernel
theorem dL_tune_24 : decode cL_tune 24 = .ok (.ireturn, 1) := by decide +kernel
theorem dL_tune_25 : decode cL_tune 25 = .ok (.iconst 0, 1) := by decide +kernel
theorem dL_tune_26 : decode cL_tune 26 = .ok (.ireturn, 1) := by decide +kernel
theorem dL_request_0 : decode cL_request 0 = .ok (.aload_n 2, 1) := by decide +kernel
theorem dL_request_1 : decode cL_request 1 = .ok (.iconst 0, 1) := by decide +kernel
theorem dL_request_2 : decode cL_request 2 = .ok (.aload_n 0, 1) := by decide +kernel
theorem dL_request_3 : decode cL_request 3 = .ok (.iload_n 1, 1) := by decide +kernel
theorem dL_request_4 : decode cL_request 4 = .ok (.invokevirtual 32, 3) := by decide +kernel
theorem dL_request_7 : decode cL_request 7 = .ok (.i2l, 1) := by decide +kernel
theorem dL_request_8 : decode cL_request 8 = .ok (.lastore, 1) := by decide +kernel
theorem dL_request_9 : decode cL_request 9 = .ok (.goto 9, 3) := by decide +kernel
theorem dL_request_12 : decode cL_request 12 = .ok (.astore_n 3, 1) := by decide +kernel
theorem dL_request_13 : decode cL_request 13 = .ok (.iconst 1, 1) := by decide +kernel
theorem dL_request_14 : decode cL_request 14 = .ok (.ireturn, 1) := by decide +kernel
theorem dL_request_15 : decode cL_request 15 = .ok (.astore_n 3, 1) := by decide +kernel
theorem dL_request_16 : decode cL_request 16 = .ok (.iconst 2, 1) := by decide +kernel
theorem dL_request_17 : decode cL_request 17 = .ok (.ireturn, 1) := by decide +kernel
theorem dL_request_18 : decode cL_request 18 = .ok (.iconst 0, 1) := by decide +kernel
theorem dL_request_19 : decode cL_request 19 = .ok (.ireturn, 1) := by decide +kernel
theorem dL_release_0 : decode cL_release 0 = .ok (.aload_n 2, 1) := by decide +kernel
theorem dL_release_1 : decode cL_release 1 = .ok (.iconst 0, 1) := by decide +kernel
theorem dL_release_2 : decode cL_release 2 = .ok (.aload_n 0, 1) := by decide +kernel
theorem dL_release_3 : decode cL_release 3 = .ok (.iload_n 1, 1) := by decide +kernel
theorem dL_release_4 : decode cL_release 4 = .ok (.invokevirtual 36, 3) := by decide +kernel
theorem dL_release_7 : decode cL_release 7 = .ok (.i2l, 1) := by decide +kernel
theorem dL_release_8 : decode cL_release 8 = .ok (.lastore, 1) := by decide +kernel
theorem dL_release_9 : decode cL_release 9 = .ok (.goto 9, 3) := by decide +kernel
theorem dL_release_12 : decode cL_release 12 = .ok (.astore_n 3, 1) := by decide +kernel
theorem dL_release_13 : decode cL_release 13 = .ok (.iconst 1, 1) := by decide +kernel
theorem dL_release_14 : decode cL_release 14 = .ok (.ireturn, 1) := by decide +kernel
theorem dL_release_15 : decode cL_release 15 = .ok (.astore_n 3, 1) := by decide +kernel
theorem dL_release_16 : decode cL_release 16 = .ok (.iconst 2, 1) := by decide +kernel
theorem dL_release_17 : decode cL_release 17 = .ok (.ireturn, 1) := by decide +kernel
theorem dL_release_18 : decode cL_release 18 = .ok (.iconst 0, 1) := by decide +kernel
theorem dL_release_19 : decode cL_release 19 = .ok (.ireturn, 1) := by decide +kernel
theorem dL_cancel_0 : decode cL_cancel 0 = .ok (.aload_n 2, 1) := by decide +kernel
theorem dL_cancel_1 : decode cL_cancel 1 = .ok (.iconst 0, 1) := by decide +kernel
theorem dL_cancel_2 : decode cL_cancel 2 = .ok (.aload_n 0, 1) := by decide +kernel
theorem dL_cancel_3 : decode cL_cancel 3 = .ok (.iload_n 1, 1) := by decide +kernel
theorem dL_cancel_4 : decode cL_cancel 4 = .ok (.invokevirtual 39, 3) := by decide +kernel
theorem dL_cancel_7 : decode cL_cancel 7 = .ok (.i2l, 1) := by decide +kernel
theorem dL_cancel_8 : decode cL_cancel 8 = .ok (.lastore, 1) := by decide +kernel
theorem dL_cancel_9 : decode cL_cancel 9 = .ok (.goto 9, 3) := by decide +kernel
theorem dL_cancel_12 : decode cL_cancel 12 = .ok (.astore_n 3, 1) := by decide +kernel
theorem dL_cancel_13 : decode cL_cancel 13 = .ok (.iconst 1, 1) := by decide +kernel
theorem dL_cancel_14 : decode cL_cancel 14 = .ok (.ireturn, 1) := by decide +kernel
theorem dL_cancel_15 : decode cL_cancel 15 = .ok (.astore_n 3, 1) := by decide +kernel
theorem dL_cancel_16 : decode cL_cancel 16 = .ok (.iconst 2, 1) := by decide +kernel
theorem dL_cancel_17 : decode cL_cancel 17 = .ok (.ireturn, 1) := by decide +kernel
theorem dL_cancel_18 : decode cL_cancel 18 = .ok (.iconst 0, 1) := by decide +kernel
theorem dL_cancel_19 : decode cL_cancel 19 = .ok (.ireturn, 1) := by decide +kernel
theorem dL_setTurnLimit_0 : decode cL_setTurnLimit 0 = .ok (.aload_n 2, 1) := by decide +kernel
theorem dL_setTurnLimit_1 : decode cL_setTurnLimit 1 = .ok (.iconst 0, 1) := by decide +kernel
theorem dL_setTurnLimit_2 : decode cL_setTurnLimit 2 = .ok (.aload_n 0, 1) := by decide +kernel
theorem dL_setTurnLimit_3 : decode cL_setTurnLimit 3 = .ok (.iload_n 1, 1) := by decide +kernel
theorem dL_setTurnLimit_4 : decode cL_setTurnLimit 4 = .ok (.invokevirtual 42, 3) := by decide +kernel
theorem dL_setTurnLimit_7 : decode cL_setTurnLimit 7 = .ok (.i2l, 1) := by decide +kernel
theorem dL_setTurnLimit_8 : decode cL_setTurnLimit 8 = .ok (.lastore, 1) := by decide +kernel
theorem dL_setTurnLimit_9 : decode cL_setTurnLimit 9 = .ok (.goto 6, 3) := by decide +kernel
theorem dL_setTurnLimit_12 : decode cL_setTurnLimit 12 = .ok (.astore_n 3, 1) := by decide +kernel
theorem dL_setTurnLimit_13 : decode cL_setTurnLimit 13 = .ok (.iconst 1, 1) := by decide +kernel
theorem dL_setTurnLimit_14 : decode cL_setTurnLimit 14 = .ok (.ireturn, 1) := by decide +kernel
theorem dL_setTurnLimit_15 : decode cL_setTurnLimit 15 = .ok (.iconst 0, 1) := by decide +kernel
theorem dL_setTurnLimit_16 : decode cL_setTurnLimit 16 = .ok (.ireturn, 1) := by decide +kernel
theorem dL_pass_0 : decode cL_pass 0 = .ok (.aload_n 2, 1) := by decide +kernel
theorem dL_pass_1 : decode cL_pass 1 = .ok (.iconst 0, 1) := by decide +kernel
theorem dL_pass_2 : decode cL_pass 2 = .ok (.aload_n 0, 1) := by decide +kernel
theorem dL_pass_3 : decode cL_pass 3 = .ok (.iload_n 1, 1) := by decide +kernel
theorem dL_pass_4 : decode cL_pass 4 = .ok (.invokevirtual 45, 3) := by decide +kernel
theorem dL_pass_7 : decode cL_pass 7 = .ok (.i2l, 1) := by decide +kernel
theorem dL_pass_8 : decode cL_pass 8 = .ok (.lastore, 1) := by decide +kernel
theorem dL_pass_9 : decode cL_pass 9 = .ok (.goto 6, 3) := by decide +kernel
theorem dL_pass_12 : decode cL_pass 12 = .ok (.astore_n 3, 1) := by decide +kernel
theorem dL_pass_13 : decode cL_pass 13 = .ok (.iconst 1, 1) := by decide +kernel
theorem dL_pass_14 : decode cL_pass 14 = .ok (.ireturn, 1) := by decide +kernel
theorem dL_pass_15 : decode cL_pass 15 = .ok (.iconst 0, 1) := by decide +kernel
theorem dL_pass_16 : decode cL_pass 16 = .ok (.ireturn, 1) := by decide +kernel
theorem dL_find_0 : decode cL_find 0 = .ok (.aload_n 3, 1) := by decide +kernel
theorem dL_find_1 : decode cL_find 1 = .ok (.iconst 0, 1) := by decide +kernel
theorem dL_find_2 : decode cL_find 2 = .ok (.aload_n 0, 1) := by decide +kernel
theorem dL_find_3 : decode cL_find 3 = .ok (.iload_n 1, 1) := by decide +kernel
theorem dL_find_4 : decode cL_find 4 = .ok (.iload_n 2, 1) := by decide +kernel
theorem dL_find_5 : decode cL_find 5 = .ok (.invokevirtual 48, 3) := by decide +kernel
theorem dL_find_8 : decode cL_find 8 = .ok (.i2l, 1) := by decide +kernel
theorem dL_find_9 : decode cL_find 9 = .ok (.lastore, 1) := by decide +kernel
theorem dL_find_10 : decode cL_find 10 = .ok (.goto 7, 3) := by decide +kernel
theorem dL_find_13 : decode cL_find 13 = .ok (.astore 4, 2) := by decide +kernel
theorem dL_find_15 : decode cL_find 15 = .ok (.iconst 1, 1) := by decide +kernel
theorem dL_find_16 : decode cL_find 16 = .ok (.ireturn, 1) := by decide +kernel
theorem dL_find_17 : decode cL_find 17 = .ok (.iconst 0, 1) := by decide +kernel
theorem dL_find_18 : decode cL_find 18 = .ok (.ireturn, 1) := by decide +kernel
theorem dL_letter_0 : decode cL_letter 0 = .ok (.aload_n 2, 1) := by decide +kernel
theorem dL_letter_1 : decode cL_letter 1 = .ok (.iconst 0, 1) := by decide +kernel
theorem dL_letter_2 : decode cL_letter 2 = .ok (.aload_n 0, 1) := by decide +kernel
theorem dL_letter_3 : decode cL_letter 3 = .ok (.iload_n 1, 1) := by decide +kernel
theorem dL_letter_4 : decode cL_letter 4 = .ok (.invokevirtual 54, 3) := by decide +kernel
theorem dL_letter_7 : decode cL_letter 7 = .ok (.i2l, 1) := by decide +kernel
theorem dL_letter_8 : decode cL_letter 8 = .ok (.lastore, 1) := by decide +kernel
theorem dL_letter_9 : decode cL_letter 9 = .ok (.goto 6, 3) := by decide +kernel
theorem dL_letter_12 : decode cL_letter 12 = .ok (.astore_n 3, 1) := by decide +kernel
theorem dL_letter_13 : decode cL_letter 13 = .ok (.iconst 1, 1) := by decide +kernel
theorem dL_letter_14 : decode cL_letter 14 = .ok (.ireturn, 1) := by decide +kernel
theorem dL_letter_15 : decode cL_letter 15 = .ok (.iconst 0, 1) := by decide +kernel
theorem dL_letter_16 : decode cL_letter 16 = .ok (.ireturn, 1) := by decide +kernel
theorem dL_digit_0 : decode cL_digit 0 = .ok (.aload_n 2, 1) := by decide +kernel
theorem dL_digit_1 : decode cL_digit 1 = .ok (.iconst 0, 1) := by decide +kernel
theorem dL_digit_2 : decode cL_digit 2 = .ok (.aload_n 0, 1) := by decide +kernel
theorem dL_digit_3 : decode cL_digit 3 = .ok (.iload_n 1, 1) := by decide +kernel
theorem dL_digit_4 : decode cL_digit 4 = .ok (.invokevirtual 58, 3) := by decide +kernel
theorem dL_digit_7 : decode cL_digit 7 = .ok (.i2l, 1) := by decide +kernel
theorem dL_digit_8 : decode cL_digit 8 = .ok (.lastore, 1) := by decide +kernel
theorem dL_digit_9 : decode cL_digit 9 = .ok (.goto 6, 3) := by decide +kernel
theorem dL_digit_12 : decode cL_digit 12 = .ok (.astore_n 3, 1) := by decide +kernel
theorem dL_digit_13 : decode cL_digit 13 = .ok (.iconst 1, 1) := by decide +kernel
theorem dL_digit_14 : decode cL_digit 14 = .ok (.ireturn, 1) := by decide +kernel
theorem dL_digit_15 : decode cL_digit 15 = .ok (.iconst 0, 1) := by decide +kernel
theorem dL_digit_16 : decode cL_digit 16 = .ok (.ireturn, 1) := by decide +kernel
theorem dL_channel_0 : decode cL_channel 0 = .ok (.aload_n 2, 1) := by decide +kernel
theorem dL_channel_1 : decode cL_channel 1 = .ok (.iconst 0, 1) := by decide +kernel
theorem dL_channel_2 : decode cL_channel 2 = .ok (.aload_n 0, 1) := by decide +kernel
theorem dL_channel_3 : decode cL_channel 3 = .ok (.iload_n 1, 1) := by decide +kernel
theorem dL_channel_4 : decode cL_channel 4 = .ok (.invokevirtual 61, 3) := by decide +kernel
theorem dL_channel_7 : decode cL_channel 7 = .ok (.i2l, 1) := by decide +kernel
theorem dL_channel_8 : decode cL_channel 8 = .ok (.lastore, 1) := by decide +kernel
theorem dL_channel_9 : decode cL_channel 9 = .ok (.goto 6, 3) := by decide +kernel
theorem dL_channel_12 : decode cL_channel 12 = .ok (.astore_n 3, 1) := by decide +kernel
theorem dL_channel_13 : decode cL_channel 13 = .ok (.iconst 1, 1) := by decide +kernel
theorem dL_channel_14 : decode cL_channel 14 = .ok (.ireturn, 1) := by decide +kernel
theorem dL_channel_15 : decode cL_channel 15 = .ok (.iconst 0, 1) := by decide +kernel
theorem dL_channel_16 : decode cL_channel 16 = .ok (.ireturn, 1) := by decide +kernel
theorem dL_power_0 : decode cL_power 0 = .ok (.aload_n 2, 1) := by decide +kernel
theorem dL_power_1 : decode cL_power 1 = .ok (.iconst 0, 1) := by decide +kernel
theorem dL_power_2 : decode cL_power 2 = .ok (.aload_n 0, 1) := by decide +kernel
theorem dL_power_3 : decode cL_power 3 = .ok (.iload_n 1, 1) := by decide +kernel
theorem dL_power_4 : decode cL_power 4 = .ok (.invokevirtual 64, 3) := by decide +kernel
theorem dL_power_7 : decode cL_power 7 = .ok (.i2l, 1) := by decide +kernel
theorem dL_power_8 : decode cL_power 8 = .ok (.lastore, 1) := by decide +kernel
theorem dL_power_9 : decode cL_power 9 = .ok (.goto 6, 3) := by decide +kernel
theorem dL_power_12 : decode cL_power 12 = .ok (.astore_n 3, 1) := by decide +kernel
theorem dL_power_13 : decode cL_power 13 = .ok (.iconst 1, 1) := by decide +kernel
theorem dL_power_14 : decode cL_power 14 = .ok (.ireturn, 1) := by decide +kernel
theorem dL_power_15 : decode cL_power 15 = .ok (.iconst 0, 1) := by decide +kernel
theorem dL_power_16 : decode cL_power 16 = .ok (.ireturn, 1) := by decide +kernel
theorem dL_isSpeaking_0 : decode cL_isSpeaking 0 = .ok (.aload_n 2, 1) := by decide +kernel
theorem dL_isSpeaking_1 : decode cL_isSpeaking 1 = .ok (.iconst 0, 1) := by decide +kernel
theorem dL_isSpeaking_2 : decode cL_isSpeaking 2 = .ok (.aload_n 0, 1) := by decide +kernel
theorem dL_isSpeaking_3 : decode cL_isSpeaking 3 = .ok (.iload_n 1, 1) := by decide +kernel
theorem dL_isSpeaking_4 : decode cL_isSpeaking 4 = .ok (.invokevirtual 67, 3) := by decide +kernel
theorem dL_isSpeaking_7 : decode cL_isSpeaking 7 = .ok (.ifCond .eq 7, 3) := by decide +kernel
theorem dL_isSpeaking_10 : decode cL_isSpeaking 10 = .ok (.lconst 1, 1) := by decide +kernel
theorem dL_isSpeaking_11 : decode cL_isSpeaking 11 = .ok (.goto 4, 3) := by decide +kernel
theorem dL_isSpeaking_14 : decode cL_isSpeaking 14 = .ok (.lconst 0, 1) := by decide +kernel
theorem dL_isSpeaking_15 : decode cL_isSpeaking 15 = .ok (.lastore, 1) := by decide +kernel
theorem dL_isSpeaking_16 : decode cL_isSpeaking 16 = .ok (.goto 6, 3) := by decide +kernel
theorem dL_isSpeaking_19 : decode cL_isSpeaking 19 = .ok (.astore_n 3, 1) := by decide +kernel
theorem dL_isSpeaking_20 : decode cL_isSpeaking 20 = .ok (.iconst 1, 1) := by decide +kernel
theorem dL_isSpeaking_21 : decode cL_isSpeaking 21 = .ok (.ireturn, 1) := by decide +kernel
theorem dL_isSpeaking_22 : decode cL_isSpeaking 22 = .ok (.iconst 0, 1) := by decide +kernel
theorem dL_isSpeaking_23 : decode cL_isSpeaking 23 = .ok (.ireturn, 1) := by decide +kernel
theorem dL_isWaiting_0 : decode cL_isWaiting 0 = .ok (.aload_n 2, 1) := by decide +kernel
theorem dL_isWaiting_1 : decode cL_isWaiting 1 = .ok (.iconst 0, 1) := by decide +kernel
theorem dL_isWaiting_2 : decode cL_isWaiting 2 = .ok (.aload_n 0, 1) := by decide +kernel
theorem dL_isWaiting_3 : decode cL_isWaiting 3 = .ok (.iload_n 1, 1) := by decide +kernel
theorem dL_isWaiting_4 : decode cL_isWaiting 4 = .ok (.invokevirtual 71, 3) := by decide +kernel
theorem dL_isWaiting_7 : decode cL_isWaiting 7 = .ok (.ifCond .eq 7, 3) := by decide +kernel
theorem dL_isWaiting_10 : decode cL_isWaiting 10 = .ok (.lconst 1, 1) := by decide +kernel
theorem dL_isWaiting_11 : decode cL_isWaiting 11 = .ok (.goto 4, 3) := by decide +kernel
theorem dL_isWaiting_14 : decode cL_isWaiting 14 = .ok (.lconst 0, 1) := by decide +kernel
theorem dL_isWaiting_15 : decode cL_isWaiting 15 = .ok (.lastore, 1) := by decide +kernel
theorem dL_isWaiting_16 : decode cL_isWaiting 16 = .ok (.goto 6, 3) := by decide +kernel
theorem dL_isWaiting_19 : decode cL_isWaiting 19 = .ok (.astore_n 3, 1) := by decide +kernel
theorem dL_isWaiting_20 : decode cL_isWaiting 20 = .ok (.iconst 1, 1) := by decide +kernel
theorem dL_isWaiting_21 : decode cL_isWaiting 21 = .ok (.ireturn, 1) := by decide +kernel
theorem dL_isWaiting_22 : decode cL_isWaiting 22 = .ok (.iconst 0, 1) := by decide +kernel
theorem dL_isWaiting_23 : decode cL_isWaiting 23 = .ok (.ireturn, 1) := by decide +kernel
theorem dL_minutesSpoken_0 : decode cL_minutesSpoken 0 = .ok (.aload_n 2, 1) := by decide +kernel
theorem dL_minutesSpoken_1 : decode cL_minutesSpoken 1 = .ok (.iconst 0, 1) := by decide +kernel
theorem dL_minutesSpoken_2 : decode cL_minutesSpoken 2 = .ok (.aload_n 0, 1) := by decide +kernel
theorem dL_minutesSpoken_3 : decode cL_minutesSpoken 3 = .ok (.iload_n 1, 1) := by decide +kernel
theorem dL_minutesSpoken_4 : decode cL_minutesSpoken 4 = .ok (.invokevirtual 74, 3) := by decide +kernel
theorem dL_minutesSpoken_7 : decode cL_minutesSpoken 7 = .ok (.i2l, 1) := by decide +kernel
theorem dL_minutesSpoken_8 : decode cL_minutesSpoken 8 = .ok (.lastore, 1) := by decide +kernel
theorem dL_minutesSpoken_9 : decode cL_minutesSpoken 9 = .ok (.goto 6, 3) := by decide +kernel
theorem dL_minutesSpoken_12 : decode cL_minutesSpoken 12 = .ok (.astore_n 3, 1) := by decide +kernel
theorem dL_minutesSpoken_13 : decode cL_minutesSpoken 13 = .ok (.iconst 1, 1) := by decide +kernel
theorem dL_minutesSpoken_14 : decode cL_minutesSpoken 14 = .ok (.ireturn, 1) := by decide +kernel
theorem dL_minutesSpoken_15 : decode cL_minutesSpoken 15 = .ok (.iconst 0, 1) := by decide +kernel
theorem dL_minutesSpoken_16 : decode cL_minutesSpoken 16 = .ok (.ireturn, 1) := by decide +kernel
theorem dL_minutesReceived_0 : decode cL_minutesReceived 0 = .ok (.aload_n 2, 1) := by decide +kernel
theorem dL_minutesReceived_1 : decode cL_minutesReceived 1 = .ok (.iconst 0, 1) := by decide +kernel
theorem dL_minutesReceived_2 : decode cL_minutesReceived 2 = .ok (.aload_n 0, 1) := by decide +kernel
theorem dL_minutesReceived_3 : decode cL_minutesReceived 3 = .ok (.iload_n 1, 1) := by decide +kernel
theorem dL_minutesReceived_4 : decode cL_minutesReceived 4 = .ok (.invokevirtual 77, 3) := by decide +kernel
theorem dL_minutesReceived_7 : decode cL_minutesReceived 7 = .ok (.i2l, 1) := by decide +kernel
theorem dL_minutesReceived_8 : decode cL_minutesReceived 8 = .ok (.lastore, 1) := by decide +kernel
theorem dL_minutesReceived_9 : decode cL_minutesReceived 9 = .ok (.goto 6, 3) := by decide +kernel
theorem dL_minutesReceived_12 : decode cL_minutesReceived 12 = .ok (.astore_n 3, 1) := by decide +kernel
theorem dL_minutesReceived_13 : decode cL_minutesReceived 13 = .ok (.iconst 1, 1) := by decide +kernel
theorem dL_minutesReceived_14 : decode cL_minutesReceived 14 = .ok (.ireturn, 1) := by decide +kernel
theorem dL_minutesReceived_15 : decode cL_minutesReceived 15 = .ok (.iconst 0, 1) := by decide +kernel
theorem dL_minutesReceived_16 : decode cL_minutesReceived 16 = .ok (.ireturn, 1) := by decide +kernel
theorem dL_stationByMinutes_0 : decode cL_stationByMinutes 0 = .ok (.aload_n 2, 1) := by decide +kernel
theorem dL_stationByMinutes_1 : decode cL_stationByMinutes 1 = .ok (.iconst 0, 1) := by decide +kernel
theorem dL_stationByMinutes_2 : decode cL_stationByMinutes 2 = .ok (.aload_n 0, 1) := by decide +kernel
theorem dL_stationByMinutes_3 : decode cL_stationByMinutes 3 = .ok (.iload_n 1, 1) := by decide +kernel
theorem dL_stationByMinutes_4 : decode cL_stationByMinutes 4 = .ok (.invokevirtual 80, 3) := by decide +kernel
theorem dL_stationByMinutes_7 : decode cL_stationByMinutes 7 = .ok (.i2l, 1) := by decide +kernel
theorem dL_stationByMinutes_8 : decode cL_stationByMinutes 8 = .ok (.lastore, 1) := by decide +kernel
theorem dL_stationByMinutes_9 : decode cL_stationByMinutes 9 = .ok (.goto 6, 3) := by decide +kernel
theorem dL_stationByMinutes_12 : decode cL_stationByMinutes 12 = .ok (.astore_n 3, 1) := by decide +kernel
theorem dL_stationByMinutes_13 : decode cL_stationByMinutes 13 = .ok (.iconst 1, 1) := by decide +kernel
theorem dL_stationByMinutes_14 : decode cL_stationByMinutes 14 = .ok (.ireturn, 1) := by decide +kernel
theorem dL_stationByMinutes_15 : decode cL_stationByMinutes 15 = .ok (.iconst 0, 1) := by decide +kernel
theorem dL_stationByMinutes_16 : decode cL_stationByMinutes 16 = .ok (.ireturn, 1) := by decide +kernel
theorem dL_speaker_0 : decode cL_speaker 0 = .ok (.aload_n 2, 1) := by decide +kernel
theorem dL_speaker_1 : decode cL_speaker 1 = .ok (.iconst 0, 1) := by decide +kernel
theorem dL_speaker_2 : decode cL_speaker 2 = .ok (.aload_n 0, 1) := by decide +kernel
theorem dL_speaker_3 : decode cL_speaker 3 = .ok (.iload_n 1, 1) := by decide +kernel
theorem dL_speaker_4 : decode cL_speaker 4 = .ok (.invokevirtual 83, 3) := by decide +kernel
theorem dL_speaker_7 : decode cL_speaker 7 = .ok (.i2l, 1) := by decide +kernel
theorem dL_speaker_8 : decode cL_speaker 8 = .ok (.lastore, 1) := by decide +kernel
theorem dL_speaker_9 : decode cL_speaker 9 = .ok (.goto 9, 3) := by decide +kernel
theorem dL_speaker_12 : decode cL_speaker 12 = .ok (.astore_n 3, 1) := by decide +kernel
theorem dL_speaker_13 : decode cL_speaker 13 = .ok (.iconst 1, 1) := by decide +kernel
theorem dL_speaker_14 : decode cL_speaker 14 = .ok (.ireturn, 1) := by decide +kernel
theorem dL_speaker_15 : decode cL_speaker 15 = .ok (.astore_n 3, 1) := by decide +kernel
theorem dL_speaker_16 : decode cL_speaker 16 = .ok (.iconst 2, 1) := by decide +kernel
theorem dL_speaker_17 : decode cL_speaker 17 = .ok (.ireturn, 1) := by decide +kernel
theorem dL_speaker_18 : decode cL_speaker 18 = .ok (.iconst 0, 1) := by decide +kernel
theorem dL_speaker_19 : decode cL_speaker 19 = .ok (.ireturn, 1) := by decide +kernel
theorem dL_lineLength_0 : decode cL_lineLength 0 = .ok (.aload_n 2, 1) := by decide +kernel
theorem dL_lineLength_1 : decode cL_lineLength 1 = .ok (.iconst 0, 1) := by decide +kernel
theorem dL_lineLength_2 : decode cL_lineLength 2 = .ok (.aload_n 0, 1) := by decide +kernel
theorem dL_lineLength_3 : decode cL_lineLength 3 = .ok (.iload_n 1, 1) := by decide +kernel
theorem dL_lineLength_4 : decode cL_lineLength 4 = .ok (.invokevirtual 86, 3) := by decide +kernel
theorem dL_lineLength_7 : decode cL_lineLength 7 = .ok (.i2l, 1) := by decide +kernel
theorem dL_lineLength_8 : decode cL_lineLength 8 = .ok (.lastore, 1) := by decide +kernel
theorem dL_lineLength_9 : decode cL_lineLength 9 = .ok (.goto 6, 3) := by decide +kernel
theorem dL_lineLength_12 : decode cL_lineLength 12 = .ok (.astore_n 3, 1) := by decide +kernel
theorem dL_lineLength_13 : decode cL_lineLength 13 = .ok (.iconst 1, 1) := by decide +kernel
theorem dL_lineLength_14 : decode cL_lineLength 14 = .ok (.ireturn, 1) := by decide +kernel
theorem dL_lineLength_15 : decode cL_lineLength 15 = .ok (.iconst 0, 1) := by decide +kernel
theorem dL_lineLength_16 : decode cL_lineLength 16 = .ok (.ireturn, 1) := by decide +kernel
theorem dL_waiting_0 : decode cL_waiting 0 = .ok (.aload_n 3, 1) := by decide +kernel
theorem dL_waiting_1 : decode cL_waiting 1 = .ok (.iconst 0, 1) := by decide +kernel
theorem dL_waiting_2 : decode cL_waiting 2 = .ok (.aload_n 0, 1) := by decide +kernel
theorem dL_waiting_3 : decode cL_waiting 3 = .ok (.iload_n 1, 1) := by decide +kernel
theorem dL_waiting_4 : decode cL_waiting 4 = .ok (.iload_n 2, 1) := by decide +kernel
theorem dL_waiting_5 : decode cL_waiting 5 = .ok (.invokevirtual 89, 3) := by decide +kernel
theorem dL_waiting_8 : decode cL_waiting 8 = .ok (.i2l, 1) := by decide +kernel
theorem dL_waiting_9 : decode cL_waiting 9 = .ok (.lastore, 1) := by decide +kernel
theorem dL_waiting_10 : decode cL_waiting 10 = .ok (.goto 11, 3) := by decide +kernel
theorem dL_waiting_13 : decode cL_waiting 13 = .ok (.astore 4, 2) := by decide +kernel
theorem dL_waiting_15 : decode cL_waiting 15 = .ok (.iconst 1, 1) := by decide +kernel
theorem dL_waiting_16 : decode cL_waiting 16 = .ok (.ireturn, 1) := by decide +kernel
theorem dL_waiting_17 : decode cL_waiting 17 = .ok (.astore 4, 2) := by decide +kernel
theorem dL_waiting_19 : decode cL_waiting 19 = .ok (.iconst 2, 1) := by decide +kernel
theorem dL_waiting_20 : decode cL_waiting 20 = .ok (.ireturn, 1) := by decide +kernel
theorem dL_waiting_21 : decode cL_waiting 21 = .ok (.iconst 0, 1) := by decide +kernel
theorem dL_waiting_22 : decode cL_waiting 22 = .ok (.ireturn, 1) := by decide +kernel
theorem dL_minutesUntilTurn_0 : decode cL_minutesUntilTurn 0 = .ok (.aload_n 2, 1) := by decide +kernel
theorem dL_minutesUntilTurn_1 : decode cL_minutesUntilTurn 1 = .ok (.iconst 0, 1) := by decide +kernel
theorem dL_minutesUntilTurn_2 : decode cL_minutesUntilTurn 2 = .ok (.aload_n 0, 1) := by decide +kernel
theorem dL_minutesUntilTurn_3 : decode cL_minutesUntilTurn 3 = .ok (.iload_n 1, 1) := by decide +kernel
theorem dL_minutesUntilTurn_4 : decode cL_minutesUntilTurn 4 = .ok (.invokevirtual 92, 3) := by decide +kernel
theorem dL_minutesUntilTurn_7 : decode cL_minutesUntilTurn 7 = .ok (.i2l, 1) := by decide +kernel
theorem dL_minutesUntilTurn_8 : decode cL_minutesUntilTurn 8 = .ok (.lastore, 1) := by decide +kernel
theorem dL_minutesUntilTurn_9 : decode cL_minutesUntilTurn 9 = .ok (.goto 9, 3) := by decide +kernel
theorem dL_minutesUntilTurn_12 : decode cL_minutesUntilTurn 12 = .ok (.astore_n 3, 1) := by decide +kernel
theorem dL_minutesUntilTurn_13 : decode cL_minutesUntilTurn 13 = .ok (.iconst 1, 1) := by decide +kernel
theorem dL_minutesUntilTurn_14 : decode cL_minutesUntilTurn 14 = .ok (.ireturn, 1) := by decide +kernel
theorem dL_minutesUntilTurn_15 : decode cL_minutesUntilTurn 15 = .ok (.astore_n 3, 1) := by decide +kernel
theorem dL_minutesUntilTurn_16 : decode cL_minutesUntilTurn 16 = .ok (.iconst 2, 1) := by decide +kernel
theorem dL_minutesUntilTurn_17 : decode cL_minutesUntilTurn 17 = .ok (.ireturn, 1) := by decide +kernel
theorem dL_minutesUntilTurn_18 : decode cL_minutesUntilTurn 18 = .ok (.iconst 0, 1) := by decide +kernel
theorem dL_minutesUntilTurn_19 : decode cL_minutesUntilTurn 19 = .ok (.ireturn, 1) := by decide +kernel
theorem dL_minutesUntilTurnBySimulation_0 : decode cL_minutesUntilTurnBySimulation 0 = .ok (.aload_n 2, 1) := by decide +kernel
theorem dL_minutesUntilTurnBySimulation_1 : decode cL_minutesUntilTurnBySimulation 1 = .ok (.iconst 0, 1) := by decide +kernel
theorem dL_minutesUntilTurnBySimulation_2 : decode cL_minutesUntilTurnBySimulation 2 = .ok (.aload_n 0, 1) := by decide +kernel
theorem dL_minutesUntilTurnBySimulation_3 : decode cL_minutesUntilTurnBySimulation 3 = .ok (.iload_n 1, 1) := by decide +kernel
theorem dL_minutesUntilTurnBySimulation_4 : decode cL_minutesUntilTurnBySimulation 4 = .ok (.invokevirtual 95, 3) := by decide +kernel
theorem dL_minutesUntilTurnBySimulation_7 : decode cL_minutesUntilTurnBySimulation 7 = .ok (.i2l, 1) := by decide +kernel
theorem dL_minutesUntilTurnBySimulation_8 : decode cL_minutesUntilTurnBySimulation 8 = .ok (.lastore, 1) := by decide +kernel
theorem dL_minutesUntilTurnBySimulation_9 : decode cL_minutesUntilTurnBySimulation 9 = .ok (.goto 9, 3) := by decide +kernel
theorem dL_minutesUntilTurnBySimulation_12 : decode cL_minutesUntilTurnBySimulation 12 = .ok (.astore_n 3, 1) := by decide +kernel
theorem dL_minutesUntilTurnBySimulation_13 : decode cL_minutesUntilTurnBySimulation 13 = .ok (.iconst 1, 1) := by decide +kernel
theorem dL_minutesUntilTurnBySimulation_14 : decode cL_minutesUntilTurnBySimulation 14 = .ok (.ireturn, 1) := by decide +kernel
theorem dL_minutesUntilTurnBySimulation_15 : decode cL_minutesUntilTurnBySimulation 15 = .ok (.astore_n 3, 1) := by decide +kernel
theorem dL_minutesUntilTurnBySimulation_16 : decode cL_minutesUntilTurnBySimulation 16 = .ok (.iconst 2, 1) := by decide +kernel
theorem dL_minutesUntilTurnBySimulation_17 : decode cL_minutesUntilTurnBySimulation 17 = .ok (.ireturn, 1) := by decide +kernel
theorem dL_minutesUntilTurnBySimulation_18 : decode cL_minutesUntilTurnBySimulation 18 = .ok (.iconst 0, 1) := by decide +kernel
theorem dL_minutesUntilTurnBySimulation_19 : decode cL_minutesUntilTurnBySimulation 19 = .ok (.ireturn, 1) := by decide +kernel
theorem dL_canHear_0 : decode cL_canHear 0 = .ok (.aload_n 3, 1) := by decide +kernel
theorem dL_canHear_1 : decode cL_canHear 1 = .ok (.iconst 0, 1) := by decide +kernel
theorem dL_canHear_2 : decode cL_canHear 2 = .ok (.aload_n 0, 1) := by decide +kernel
theorem dL_canHear_3 : decode cL_canHear 3 = .ok (.iload_n 1, 1) := by decide +kernel
theorem dL_canHear_4 : decode cL_canHear 4 = .ok (.iload_n 2, 1) := by decide +kernel
theorem dL_canHear_5 : decode cL_canHear 5 = .ok (.invokevirtual 98, 3) := by decide +kernel
theorem dL_canHear_8 : decode cL_canHear 8 = .ok (.ifCond .eq 7, 3) := by decide +kernel
theorem dL_canHear_11 : decode cL_canHear 11 = .ok (.lconst 1, 1) := by decide +kernel
theorem dL_canHear_12 : decode cL_canHear 12 = .ok (.goto 4, 3) := by decide +kernel
theorem dL_canHear_15 : decode cL_canHear 15 = .ok (.lconst 0, 1) := by decide +kernel
theorem dL_canHear_16 : decode cL_canHear 16 = .ok (.lastore, 1) := by decide +kernel
theorem dL_canHear_17 : decode cL_canHear 17 = .ok (.goto 7, 3) := by decide +kernel
theorem dL_canHear_20 : decode cL_canHear 20 = .ok (.astore 4, 2) := by decide +kernel
theorem dL_canHear_22 : decode cL_canHear 22 = .ok (.iconst 1, 1) := by decide +kernel
theorem dL_canHear_23 : decode cL_canHear 23 = .ok (.ireturn, 1) := by decide +kernel
theorem dL_canHear_24 : decode cL_canHear 24 = .ok (.iconst 0, 1) := by decide +kernel
theorem dL_canHear_25 : decode cL_canHear 25 = .ok (.ireturn, 1) := by decide +kernel
theorem dL_isJammed_0 : decode cL_isJammed 0 = .ok (.aload_n 2, 1) := by decide +kernel
theorem dL_isJammed_1 : decode cL_isJammed 1 = .ok (.iconst 0, 1) := by decide +kernel
theorem dL_isJammed_2 : decode cL_isJammed 2 = .ok (.aload_n 0, 1) := by decide +kernel
theorem dL_isJammed_3 : decode cL_isJammed 3 = .ok (.iload_n 1, 1) := by decide +kernel
theorem dL_isJammed_4 : decode cL_isJammed 4 = .ok (.invokevirtual 102, 3) := by decide +kernel
theorem dL_isJammed_7 : decode cL_isJammed 7 = .ok (.ifCond .eq 7, 3) := by decide +kernel
theorem dL_isJammed_10 : decode cL_isJammed 10 = .ok (.lconst 1, 1) := by decide +kernel
theorem dL_isJammed_11 : decode cL_isJammed 11 = .ok (.goto 4, 3) := by decide +kernel
theorem dL_isJammed_14 : decode cL_isJammed 14 = .ok (.lconst 0, 1) := by decide +kernel
theorem dL_isJammed_15 : decode cL_isJammed 15 = .ok (.lastore, 1) := by decide +kernel
theorem dL_isJammed_16 : decode cL_isJammed 16 = .ok (.goto 6, 3) := by decide +kernel
theorem dL_isJammed_19 : decode cL_isJammed 19 = .ok (.astore_n 3, 1) := by decide +kernel
theorem dL_isJammed_20 : decode cL_isJammed 20 = .ok (.iconst 1, 1) := by decide +kernel
theorem dL_isJammed_21 : decode cL_isJammed 21 = .ok (.ireturn, 1) := by decide +kernel
theorem dL_isJammed_22 : decode cL_isJammed 22 = .ok (.iconst 0, 1) := by decide +kernel
theorem dL_isJammed_23 : decode cL_isJammed 23 = .ok (.ireturn, 1) := by decide +kernel
theorem dL_hops_0 : decode cL_hops 0 = .ok (.aload_n 3, 1) := by decide +kernel
theorem dL_hops_1 : decode cL_hops 1 = .ok (.iconst 0, 1) := by decide +kernel
theorem dL_hops_2 : decode cL_hops 2 = .ok (.aload_n 0, 1) := by decide +kernel
theorem dL_hops_3 : decode cL_hops 3 = .ok (.iload_n 1, 1) := by decide +kernel
theorem dL_hops_4 : decode cL_hops 4 = .ok (.iload_n 2, 1) := by decide +kernel
theorem dL_hops_5 : decode cL_hops 5 = .ok (.invokevirtual 105, 3) := by decide +kernel
theorem dL_hops_8 : decode cL_hops 8 = .ok (.i2l, 1) := by decide +kernel
theorem dL_hops_9 : decode cL_hops 9 = .ok (.lastore, 1) := by decide +kernel
theorem dL_hops_10 : decode cL_hops 10 = .ok (.goto 11, 3) := by decide +kernel
theorem dL_hops_13 : decode cL_hops 13 = .ok (.astore 4, 2) := by decide +kernel
theorem dL_hops_15 : decode cL_hops 15 = .ok (.iconst 1, 1) := by decide +kernel
theorem dL_hops_16 : decode cL_hops 16 = .ok (.ireturn, 1) := by decide +kernel
theorem dL_hops_17 : decode cL_hops 17 = .ok (.astore 4, 2) := by decide +kernel
theorem dL_hops_19 : decode cL_hops 19 = .ok (.iconst 2, 1) := by decide +kernel
theorem dL_hops_20 : decode cL_hops 20 = .ok (.ireturn, 1) := by decide +kernel
theorem dL_hops_21 : decode cL_hops 21 = .ok (.iconst 0, 1) := by decide +kernel
theorem dL_hops_22 : decode cL_hops 22 = .ok (.ireturn, 1) := by decide +kernel
theorem dL_hopsBySets_0 : decode cL_hopsBySets 0 = .ok (.aload_n 3, 1) := by decide +kernel
theorem dL_hopsBySets_1 : decode cL_hopsBySets 1 = .ok (.iconst 0, 1) := by decide +kernel
theorem dL_hopsBySets_2 : decode cL_hopsBySets 2 = .ok (.aload_n 0, 1) := by decide +kernel
theorem dL_hopsBySets_3 : decode cL_hopsBySets 3 = .ok (.iload_n 1, 1) := by decide +kernel
theorem dL_hopsBySets_4 : decode cL_hopsBySets 4 = .ok (.iload_n 2, 1) := by decide +kernel
theorem dL_hopsBySets_5 : decode cL_hopsBySets 5 = .ok (.invokevirtual 108, 3) := by decide +kernel
theorem dL_hopsBySets_8 : decode cL_hopsBySets 8 = .ok (.i2l, 1) := by decide +kernel
theorem dL_hopsBySets_9 : decode cL_hopsBySets 9 = .ok (.lastore, 1) := by decide +kernel
theorem dL_hopsBySets_10 : decode cL_hopsBySets 10 = .ok (.goto 11, 3) := by decide +kernel
theorem dL_hopsBySets_13 : decode cL_hopsBySets 13 = .ok (.astore 4, 2) := by decide +kernel
theorem dL_hopsBySets_15 : decode cL_hopsBySets 15 = .ok (.iconst 1, 1) := by decide +kernel
theorem dL_hopsBySets_16 : decode cL_hopsBySets 16 = .ok (.ireturn, 1) := by decide +kernel
theorem dL_hopsBySets_17 : decode cL_hopsBySets 17 = .ok (.astore 4, 2) := by decide +kernel
theorem dL_hopsBySets_19 : decode cL_hopsBySets 19 = .ok (.iconst 2, 1) := by decide +kernel
theorem dL_hopsBySets_20 : decode cL_hopsBySets 20 = .ok (.ireturn, 1) := by decide +kernel
theorem dL_hopsBySets_21 : decode cL_hopsBySets 21 = .ok (.iconst 0, 1) := by decide +kernel
theorem dL_hopsBySets_22 : decode cL_hopsBySets 22 = .ok (.ireturn, 1) := by decide +kernel
theorem dL_reachable_0 : decode cL_reachable 0 = .ok (.aload_n 2, 1) := by decide +kernel
theorem dL_reachable_1 : decode cL_reachable 1 = .ok (.iconst 0, 1) := by decide +kernel
theorem dL_reachable_2 : decode cL_reachable 2 = .ok (.aload_n 0, 1) := by decide +kernel
theorem dL_reachable_3 : decode cL_reachable 3 = .ok (.iload_n 1, 1) := by decide +kernel
theorem dL_reachable_4 : decode cL_reachable 4 = .ok (.invokevirtual 111, 3) := by decide +kernel
theorem dL_reachable_7 : decode cL_reachable 7 = .ok (.i2l, 1) := by decide +kernel
theorem dL_reachable_8 : decode cL_reachable 8 = .ok (.lastore, 1) := by decide +kernel
theorem dL_reachable_9 : decode cL_reachable 9 = .ok (.goto 6, 3) := by decide +kernel
theorem dL_reachable_12 : decode cL_reachable 12 = .ok (.astore_n 3, 1) := by decide +kernel
theorem dL_reachable_13 : decode cL_reachable 13 = .ok (.iconst 1, 1) := by decide +kernel
theorem dL_reachable_14 : decode cL_reachable 14 = .ok (.ireturn, 1) := by decide +kernel
theorem dL_reachable_15 : decode cL_reachable 15 = .ok (.iconst 0, 1) := by decide +kernel
theorem dL_reachable_16 : decode cL_reachable 16 = .ok (.ireturn, 1) := by decide +kernel
theorem dL_logStation_0 : decode cL_logStation 0 = .ok (.aload_n 2, 1) := by decide +kernel
theorem dL_logStation_1 : decode cL_logStation 1 = .ok (.iconst 0, 1) := by decide +kernel
theorem dL_logStation_2 : decode cL_logStation 2 = .ok (.aload_n 0, 1) := by decide +kernel
theorem dL_logStation_3 : decode cL_logStation 3 = .ok (.iload_n 1, 1) := by decide +kernel
theorem dL_logStation_4 : decode cL_logStation 4 = .ok (.invokevirtual 114, 3) := by decide +kernel
theorem dL_logStation_7 : decode cL_logStation 7 = .ok (.i2l, 1) := by decide +kernel
theorem dL_logStation_8 : decode cL_logStation 8 = .ok (.lastore, 1) := by decide +kernel
theorem dL_logStation_9 : decode cL_logStation 9 = .ok (.goto 6, 3) := by decide +kernel
theorem dL_logStation_12 : decode cL_logStation 12 = .ok (.astore_n 3, 1) := by decide +kernel
theorem dL_logStation_13 : decode cL_logStation 13 = .ok (.iconst 1, 1) := by decide +kernel
theorem dL_logStation_14 : decode cL_logStation 14 = .ok (.ireturn, 1) := by decide +kernel
theorem dL_logStation_15 : decode cL_logStation 15 = .ok (.iconst 0, 1) := by decide +kernel
theorem dL_logStation_16 : decode cL_logStation 16 = .ok (.ireturn, 1) := by decide +kernel
theorem dL_logBegin_0 : decode cL_logBegin 0 = .ok (.aload_n 2, 1) := by decide +kernel
theorem dL_logBegin_1 : decode cL_logBegin 1 = .ok (.iconst 0, 1) := by decide +kernel
theorem dL_logBegin_2 : decode cL_logBegin 2 = .ok (.aload_n 0, 1) := by decide +kernel
theorem dL_logBegin_3 : decode cL_logBegin 3 = .ok (.iload_n 1, 1) := by decide +kernel
theorem dL_logBegin_4 : decode cL_logBegin 4 = .ok (.invokevirtual 117, 3) := by decide +kernel
theorem dL_logBegin_7 : decode cL_logBegin 7 = .ok (.i2l, 1) := by decide +kernel
theorem dL_logBegin_8 : decode cL_logBegin 8 = .ok (.lastore, 1) := by decide +kernel
theorem dL_logBegin_9 : decode cL_logBegin 9 = .ok (.goto 6, 3) := by decide +kernel
theorem dL_logBegin_12 : decode cL_logBegin 12 = .ok (.astore_n 3, 1) := by decide +kernel
theorem dL_logBegin_13 : decode cL_logBegin 13 = .ok (.iconst 1, 1) := by decide +kernel
theorem dL_logBegin_14 : decode cL_logBegin 14 = .ok (.ireturn, 1) := by decide +kernel
theorem dL_logBegin_15 : decode cL_logBegin 15 = .ok (.iconst 0, 1) := by decide +kernel
theorem dL_logBegin_16 : decode cL_logBegin 16 = .ok (.ireturn, 1) := by decide +kernel
theorem dL_logMinutes_0 : decode cL_logMinutes 0 = .ok (.aload_n 2, 1) := by decide +kernel
theorem dL_logMinutes_1 : decode cL_logMinutes 1 = .ok (.iconst 0, 1) := by decide +kernel
theorem dL_logMinutes_2 : decode cL_logMinutes 2 = .ok (.aload_n 0, 1) := by decide +kernel
theorem dL_logMinutes_3 : decode cL_logMinutes 3 = .ok (.iload_n 1, 1) := by decide +kernel
theorem dL_logMinutes_4 : decode cL_logMinutes 4 = .ok (.invokevirtual 120, 3) := by decide +kernel
theorem dL_logMinutes_7 : decode cL_logMinutes 7 = .ok (.i2l, 1) := by decide +kernel
theorem dL_logMinutes_8 : decode cL_logMinutes 8 = .ok (.lastore, 1) := by decide +kernel
theorem dL_logMinutes_9 : decode cL_logMinutes 9 = .ok (.goto 6, 3) := by decide +kernel
theorem dL_logMinutes_12 : decode cL_logMinutes 12 = .ok (.astore_n 3, 1) := by decide +kernel
theorem dL_logMinutes_13 : decode cL_logMinutes 13 = .ok (.iconst 1, 1) := by decide +kernel
theorem dL_logMinutes_14 : decode cL_logMinutes 14 = .ok (.ireturn, 1) := by decide +kernel
theorem dL_logMinutes_15 : decode cL_logMinutes 15 = .ok (.iconst 0, 1) := by decide +kernel
theorem dL_logMinutes_16 : decode cL_logMinutes 16 = .ok (.ireturn, 1) := by decide +kernel
theorem dL_meanPower_0 : decode cL_meanPower 0 = .ok (.aload_n 1, 1) := by decide +kernel
theorem dL_meanPower_1 : decode cL_meanPower 1 = .ok (.iconst 0, 1) := by decide +kernel
theorem dL_meanPower_2 : decode cL_meanPower 2 = .ok (.aload_n 0, 1) := by decide +kernel
theorem dL_meanPower_3 : decode cL_meanPower 3 = .ok (.invokevirtual 123, 3) := by decide +kernel
theorem dL_meanPower_6 : decode cL_meanPower 6 = .ok (.dastore, 1) := by decide +kernel
theorem dL_meanPower_7 : decode cL_meanPower 7 = .ok (.goto 6, 3) := by decide +kernel
theorem dL_meanPower_10 : decode cL_meanPower 10 = .ok (.astore_n 2, 1) := by decide +kernel
theorem dL_meanPower_11 : decode cL_meanPower 11 = .ok (.iconst 1, 1) := by decide +kernel
theorem dL_meanPower_12 : decode cL_meanPower 12 = .ok (.ireturn, 1) := by decide +kernel
theorem dL_meanPower_13 : decode cL_meanPower 13 = .ok (.iconst 0, 1) := by decide +kernel
theorem dL_meanPower_14 : decode cL_meanPower 14 = .ok (.ireturn, 1) := by decide +kernel
theorem dL_airtime_0 : decode cL_airtime 0 = .ok (.aload_n 1, 1) := by decide +kernel
theorem dL_airtime_1 : decode cL_airtime 1 = .ok (.iconst 0, 1) := by decide +kernel
theorem dL_airtime_2 : decode cL_airtime 2 = .ok (.aload_n 0, 1) := by decide +kernel
theorem dL_airtime_3 : decode cL_airtime 3 = .ok (.invokevirtual 129, 3) := by decide +kernel
theorem dL_airtime_6 : decode cL_airtime 6 = .ok (.f2d, 1) := by decide +kernel
theorem dL_airtime_7 : decode cL_airtime 7 = .ok (.dastore, 1) := by decide +kernel
theorem dL_airtime_8 : decode cL_airtime 8 = .ok (.goto 6, 3) := by decide +kernel
theorem dL_airtime_11 : decode cL_airtime 11 = .ok (.astore_n 2, 1) := by decide +kernel
theorem dL_airtime_12 : decode cL_airtime 12 = .ok (.iconst 1, 1) := by decide +kernel
theorem dL_airtime_13 : decode cL_airtime 13 = .ok (.ireturn, 1) := by decide +kernel
theorem dL_airtime_14 : decode cL_airtime 14 = .ok (.iconst 0, 1) := by decide +kernel
theorem dL_airtime_15 : decode cL_airtime 15 = .ok (.ireturn, 1) := by decide +kernel
theorem dL_writeStation_0 : decode cL_writeStation 0 = .ok (.aload_n 2, 1) := by decide +kernel
theorem dL_writeStation_1 : decode cL_writeStation 1 = .ok (.iconst 0, 1) := by decide +kernel
theorem dL_writeStation_2 : decode cL_writeStation 2 = .ok (.aload_n 0, 1) := by decide +kernel
theorem dL_writeStation_3 : decode cL_writeStation 3 = .ok (.iload_n 1, 1) := by decide +kernel
theorem dL_writeStation_4 : decode cL_writeStation 4 = .ok (.invokevirtual 133, 3) := by decide +kernel
theorem dL_writeStation_7 : decode cL_writeStation 7 = .ok (.i2l, 1) := by decide +kernel
theorem dL_writeStation_8 : decode cL_writeStation 8 = .ok (.lastore, 1) := by decide +kernel
theorem dL_writeStation_9 : decode cL_writeStation 9 = .ok (.goto 6, 3) := by decide +kernel
theorem dL_writeStation_12 : decode cL_writeStation 12 = .ok (.astore_n 3, 1) := by decide +kernel
theorem dL_writeStation_13 : decode cL_writeStation 13 = .ok (.iconst 1, 1) := by decide +kernel
theorem dL_writeStation_14 : decode cL_writeStation 14 = .ok (.ireturn, 1) := by decide +kernel
theorem dL_writeStation_15 : decode cL_writeStation 15 = .ok (.iconst 0, 1) := by decide +kernel
theorem dL_writeStation_16 : decode cL_writeStation 16 = .ok (.ireturn, 1) := by decide +kernel
theorem dL_writeChannel_0 : decode cL_writeChannel 0 = .ok (.aload_n 2, 1) := by decide +kernel
theorem dL_writeChannel_1 : decode cL_writeChannel 1 = .ok (.iconst 0, 1) := by decide +kernel
theorem dL_writeChannel_2 : decode cL_writeChannel 2 = .ok (.aload_n 0, 1) := by decide +kernel
theorem dL_writeChannel_3 : decode cL_writeChannel 3 = .ok (.iload_n 1, 1) := by decide +kernel
theorem dL_writeChannel_4 : decode cL_writeChannel 4 = .ok (.invokevirtual 136, 3) := by decide +kernel
theorem dL_writeChannel_7 : decode cL_writeChannel 7 = .ok (.i2l, 1) := by decide +kernel
theorem dL_writeChannel_8 : decode cL_writeChannel 8 = .ok (.lastore, 1) := by decide +kernel
theorem dL_writeChannel_9 : decode cL_writeChannel 9 = .ok (.goto 6, 3) := by decide +kernel
theorem dL_writeChannel_12 : decode cL_writeChannel 12 = .ok (.astore_n 3, 1) := by decide +kernel
theorem dL_writeChannel_13 : decode cL_writeChannel 13 = .ok (.iconst 1, 1) := by decide +kernel
theorem dL_writeChannel_14 : decode cL_writeChannel 14 = .ok (.ireturn, 1) := by decide +kernel
theorem dL_writeChannel_15 : decode cL_writeChannel 15 = .ok (.iconst 0, 1) := by decide +kernel
theorem dL_writeChannel_16 : decode cL_writeChannel 16 = .ok (.ireturn, 1) := by decide +kernel
theorem dL_charAt_0 : decode cL_charAt 0 = .ok (.aload_n 2, 1) := by decide +kernel
theorem dL_charAt_1 : decode cL_charAt 1 = .ok (.iconst 0, 1) := by decide +kernel
theorem dL_charAt_2 : decode cL_charAt 2 = .ok (.aload_n 0, 1) := by decide +kernel
theorem dL_charAt_3 : decode cL_charAt 3 = .ok (.iload_n 1, 1) := by decide +kernel
theorem dL_charAt_4 : decode cL_charAt 4 = .ok (.invokevirtual 139, 3) := by decide +kernel
theorem dL_charAt_7 : decode cL_charAt 7 = .ok (.i2l, 1) := by decide +kernel
theorem dL_charAt_8 : decode cL_charAt 8 = .ok (.lastore, 1) := by decide +kernel
theorem dL_charAt_9 : decode cL_charAt 9 = .ok (.goto 6, 3) := by decide +kernel
theorem dL_charAt_12 : decode cL_charAt 12 = .ok (.astore_n 3, 1) := by decide +kernel
theorem dL_charAt_13 : decode cL_charAt 13 = .ok (.iconst 1, 1) := by decide +kernel
theorem dL_charAt_14 : decode cL_charAt 14 = .ok (.ireturn, 1) := by decide +kernel
theorem dL_charAt_15 : decode cL_charAt 15 = .ok (.iconst 0, 1) := by decide +kernel
theorem dL_charAt_16 : decode cL_charAt 16 = .ok (.ireturn, 1) := by decide +kernel
theorem dL_type_0 : decode cL_type 0 = .ok (.aload_n 2, 1) := by decide +kernel
theorem dL_type_1 : decode cL_type 1 = .ok (.iconst 0, 1) := by decide +kernel
theorem dL_type_2 : decode cL_type 2 = .ok (.aload_n 0, 1) := by decide +kernel
theorem dL_type_3 : decode cL_type 3 = .ok (.iload_n 1, 1) := by decide +kernel
theorem dL_type_4 : decode cL_type 4 = .ok (.invokevirtual 142, 3) := by decide +kernel
theorem dL_type_7 : decode cL_type 7 = .ok (.i2l, 1) := by decide +kernel
theorem dL_type_8 : decode cL_type 8 = .ok (.lastore, 1) := by decide +kernel
theorem dL_type_9 : decode cL_type 9 = .ok (.goto 6, 3) := by decide +kernel
theorem dL_type_12 : decode cL_type 12 = .ok (.astore_n 3, 1) := by decide +kernel
theorem dL_type_13 : decode cL_type 13 = .ok (.iconst 1, 1) := by decide +kernel
theorem dL_type_14 : decode cL_type 14 = .ok (.ireturn, 1) := by decide +kernel
theorem dL_type_15 : decode cL_type 15 = .ok (.iconst 0, 1) := by decide +kernel
theorem dL_type_16 : decode cL_type 16 = .ok (.ireturn, 1) := by decide +kernel
theorem dL_run_0 : decode cL_run 0 = .ok (.aload_n 1, 1) := by decide +kernel
theorem dL_run_1 : decode cL_run 1 = .ok (.iconst 0, 1) := by decide +kernel
theorem dL_run_2 : decode cL_run 2 = .ok (.aload_n 0, 1) := by decide +kernel
theorem dL_run_3 : decode cL_run 3 = .ok (.invokevirtual 146, 3) := by decide +kernel
theorem dL_run_6 : decode cL_run 6 = .ok (.i2l, 1) := by decide +kernel
theorem dL_run_7 : decode cL_run 7 = .ok (.lastore, 1) := by decide +kernel
theorem dL_run_8 : decode cL_run 8 = .ok (.goto 9, 3) := by decide +kernel
theorem dL_run_11 : decode cL_run 11 = .ok (.astore_n 2, 1) := by decide +kernel
theorem dL_run_12 : decode cL_run 12 = .ok (.iconst 1, 1) := by decide +kernel
theorem dL_run_13 : decode cL_run 13 = .ok (.ireturn, 1) := by decide +kernel
theorem dL_run_14 : decode cL_run 14 = .ok (.astore_n 2, 1) := by decide +kernel
theorem dL_run_15 : decode cL_run 15 = .ok (.iconst 2, 1) := by decide +kernel
theorem dL_run_16 : decode cL_run 16 = .ok (.ireturn, 1) := by decide +kernel
theorem dL_run_17 : decode cL_run 17 = .ok (.iconst 0, 1) := by decide +kernel
theorem dL_run_18 : decode cL_run 18 = .ok (.ireturn, 1) := by decide +kernel
theorem dL_errorPosition_0 : decode cL_errorPosition 0 = .ok (.aload_n 1, 1) := by decide +kernel
theorem dL_errorPosition_1 : decode cL_errorPosition 1 = .ok (.iconst 0, 1) := by decide +kernel
theorem dL_errorPosition_2 : decode cL_errorPosition 2 = .ok (.aload_n 0, 1) := by decide +kernel
theorem dL_errorPosition_3 : decode cL_errorPosition 3 = .ok (.invokevirtual 150, 3) := by decide +kernel
theorem dL_errorPosition_6 : decode cL_errorPosition 6 = .ok (.i2l, 1) := by decide +kernel
theorem dL_errorPosition_7 : decode cL_errorPosition 7 = .ok (.lastore, 1) := by decide +kernel
theorem dL_errorPosition_8 : decode cL_errorPosition 8 = .ok (.goto 6, 3) := by decide +kernel
theorem dL_errorPosition_11 : decode cL_errorPosition 11 = .ok (.astore_n 2, 1) := by decide +kernel
theorem dL_errorPosition_12 : decode cL_errorPosition 12 = .ok (.iconst 1, 1) := by decide +kernel
theorem dL_errorPosition_13 : decode cL_errorPosition 13 = .ok (.ireturn, 1) := by decide +kernel
theorem dL_errorPosition_14 : decode cL_errorPosition 14 = .ok (.iconst 0, 1) := by decide +kernel
theorem dL_errorPosition_15 : decode cL_errorPosition 15 = .ok (.ireturn, 1) := by decide +kernel
theorem dL_failedCommand_0 : decode cL_failedCommand 0 = .ok (.aload_n 1, 1) := by decide +kernel
theorem dL_failedCommand_1 : decode cL_failedCommand 1 = .ok (.iconst 0, 1) := by decide +kernel
theorem dL_failedCommand_2 : decode cL_failedCommand 2 = .ok (.aload_n 0, 1) := by decide +kernel
theorem dL_failedCommand_3 : decode cL_failedCommand 3 = .ok (.invokevirtual 153, 3) := by decide +kernel
theorem dL_failedCommand_6 : decode cL_failedCommand 6 = .ok (.i2l, 1) := by decide +kernel
theorem dL_failedCommand_7 : decode cL_failedCommand 7 = .ok (.lastore, 1) := by decide +kernel
theorem dL_failedCommand_8 : decode cL_failedCommand 8 = .ok (.goto 6, 3) := by decide +kernel
theorem dL_failedCommand_11 : decode cL_failedCommand 11 = .ok (.astore_n 2, 1) := by decide +kernel
theorem dL_failedCommand_12 : decode cL_failedCommand 12 = .ok (.iconst 1, 1) := by decide +kernel
theorem dL_failedCommand_13 : decode cL_failedCommand 13 = .ok (.ireturn, 1) := by decide +kernel
theorem dL_failedCommand_14 : decode cL_failedCommand 14 = .ok (.iconst 0, 1) := by decide +kernel
theorem dL_failedCommand_15 : decode cL_failedCommand 15 = .ok (.ireturn, 1) := by decide +kernel
theorem dL_undo_0 : decode cL_undo 0 = .ok (.aload_n 1, 1) := by decide +kernel
theorem dL_undo_1 : decode cL_undo 1 = .ok (.iconst 0, 1) := by decide +kernel
theorem dL_undo_2 : decode cL_undo 2 = .ok (.aload_n 0, 1) := by decide +kernel
theorem dL_undo_3 : decode cL_undo 3 = .ok (.invokevirtual 156, 3) := by decide +kernel
theorem dL_undo_6 : decode cL_undo 6 = .ok (.i2l, 1) := by decide +kernel
theorem dL_undo_7 : decode cL_undo 7 = .ok (.lastore, 1) := by decide +kernel
theorem dL_undo_8 : decode cL_undo 8 = .ok (.goto 6, 3) := by decide +kernel
theorem dL_undo_11 : decode cL_undo 11 = .ok (.astore_n 2, 1) := by decide +kernel
theorem dL_undo_12 : decode cL_undo 12 = .ok (.iconst 1, 1) := by decide +kernel
theorem dL_undo_13 : decode cL_undo 13 = .ok (.ireturn, 1) := by decide +kernel
theorem dL_undo_14 : decode cL_undo 14 = .ok (.iconst 0, 1) := by decide +kernel
theorem dL_undo_15 : decode cL_undo 15 = .ok (.ireturn, 1) := by decide +kernel
theorem dL_restore_0 : decode cL_restore 0 = .ok (.aload_n 1, 1) := by decide +kernel
theorem dL_restore_1 : decode cL_restore 1 = .ok (.iconst 0, 1) := by decide +kernel
theorem dL_restore_2 : decode cL_restore 2 = .ok (.aload_n 0, 1) := by decide +kernel
theorem dL_restore_3 : decode cL_restore 3 = .ok (.invokevirtual 159, 3) := by decide +kernel
theorem dL_restore_6 : decode cL_restore 6 = .ok (.i2l, 1) := by decide +kernel
theorem dL_restore_7 : decode cL_restore 7 = .ok (.lastore, 1) := by decide +kernel
theorem dL_restore_8 : decode cL_restore 8 = .ok (.goto 6, 3) := by decide +kernel
theorem dL_restore_11 : decode cL_restore 11 = .ok (.astore_n 2, 1) := by decide +kernel
theorem dL_restore_12 : decode cL_restore 12 = .ok (.iconst 1, 1) := by decide +kernel
theorem dL_restore_13 : decode cL_restore 13 = .ok (.ireturn, 1) := by decide +kernel
theorem dL_restore_14 : decode cL_restore 14 = .ok (.iconst 0, 1) := by decide +kernel
theorem dL_restore_15 : decode cL_restore 15 = .ok (.ireturn, 1) := by decide +kernel
