/-! ===== instructions: the net ===== -/
theorem dX11_isChannel_0 : decode cX11_isChannel 0 = .ok (.iload_n 0, 1) := by decide +kernel
theorem dX11_isChannel_1 : decode cX11_isChannel 1 = .ok (.ifCond .lt 13, 3) := by decide +kernel
theorem dX11_isChannel_4 : decode cX11_isChannel 4 = .ok (.iload_n 0, 1) := by decide +kernel
theorem dX11_isChannel_5 : decode cX11_isChannel 5 = .ok (.bipush 10, 2) := by decide +kernel
theorem dX11_isChannel_7 : decode cX11_isChannel 7 = .ok (.if_icmp .ge 7, 3) := by decide +kernel
theorem dX11_isChannel_10 : decode cX11_isChannel 10 = .ok (.iconst 1, 1) := by decide +kernel
theorem dX11_isChannel_11 : decode cX11_isChannel 11 = .ok (.goto 4, 3) := by decide +kernel
theorem dX11_isChannel_14 : decode cX11_isChannel 14 = .ok (.iconst 0, 1) := by decide +kernel
theorem dX11_isChannel_15 : decode cX11_isChannel 15 = .ok (.ireturn, 1) := by decide +kernel
theorem dX11_isPower_0 : decode cX11_isPower 0 = .ok (.iload_n 0, 1) := by decide +kernel
theorem dX11_isPower_1 : decode cX11_isPower 1 = .ok (.iconst 1, 1) := by decide +kernel
theorem dX11_isPower_2 : decode cX11_isPower 2 = .ok (.if_icmp .lt 13, 3) := by decide +kernel
theorem dX11_isPower_5 : decode cX11_isPower 5 = .ok (.iload_n 0, 1) := by decide +kernel
theorem dX11_isPower_6 : decode cX11_isPower 6 = .ok (.bipush 99, 2) := by decide +kernel
theorem dX11_isPower_8 : decode cX11_isPower 8 = .ok (.if_icmp .gt 7, 3) := by decide +kernel
theorem dX11_isPower_11 : decode cX11_isPower 11 = .ok (.iconst 1, 1) := by decide +kernel
theorem dX11_isPower_12 : decode cX11_isPower 12 = .ok (.goto 4, 3) := by decide +kernel
theorem dX11_isPower_15 : decode cX11_isPower 15 = .ok (.iconst 0, 1) := by decide +kernel
theorem dX11_isPower_16 : decode cX11_isPower 16 = .ok (.ireturn, 1) := by decide +kernel
theorem dX11_isPlace_0 : decode cX11_isPlace 0 = .ok (.iload_n 0, 1) := by decide +kernel
theorem dX11_isPlace_1 : decode cX11_isPlace 1 = .ok (.ifCond .lt 23, 3) := by decide +kernel
theorem dX11_isPlace_4 : decode cX11_isPlace 4 = .ok (.iload_n 0, 1) := by decide +kernel
theorem dX11_isPlace_5 : decode cX11_isPlace 5 = .ok (.bipush 99, 2) := by decide +kernel
theorem dX11_isPlace_7 : decode cX11_isPlace 7 = .ok (.if_icmp .gt 17, 3) := by decide +kernel
theorem dX11_isPlace_10 : decode cX11_isPlace 10 = .ok (.iload_n 1, 1) := by decide +kernel
theorem dX11_isPlace_11 : decode cX11_isPlace 11 = .ok (.ifCond .lt 13, 3) := by decide +kernel
theorem dX11_isPlace_14 : decode cX11_isPlace 14 = .ok (.iload_n 1, 1) := by decide +kernel
theorem dX11_isPlace_15 : decode cX11_isPlace 15 = .ok (.bipush 99, 2) := by decide +kernel
theorem dX11_isPlace_17 : decode cX11_isPlace 17 = .ok (.if_icmp .gt 7, 3) := by decide +kernel
theorem dX11_isPlace_20 : decode cX11_isPlace 20 = .ok (.iconst 1, 1) := by decide +kernel
theorem dX11_isPlace_21 : decode cX11_isPlace 21 = .ok (.goto 4, 3) := by decide +kernel
theorem dX11_isPlace_24 : decode cX11_isPlace 24 = .ok (.iconst 0, 1) := by decide +kernel
theorem dX11_isPlace_25 : decode cX11_isPlace 25 = .ok (.ireturn, 1) := by decide +kernel
theorem dX11_isLetter_0 : decode cX11_isLetter 0 = .ok (.iload_n 0, 1) := by decide +kernel
theorem dX11_isLetter_1 : decode cX11_isLetter 1 = .ok (.bipush 65, 2) := by decide +kernel
theorem dX11_isLetter_3 : decode cX11_isLetter 3 = .ok (.if_icmp .lt 13, 3) := by decide +kernel
theorem dX11_isLetter_6 : decode cX11_isLetter 6 = .ok (.iload_n 0, 1) := by decide +kernel
theorem dX11_isLetter_7 : decode cX11_isLetter 7 = .ok (.bipush 90, 2) := by decide +kernel
theorem dX11_isLetter_9 : decode cX11_isLetter 9 = .ok (.if_icmp .gt 7, 3) := by decide +kernel
theorem dX11_isLetter_12 : decode cX11_isLetter 12 = .ok (.iconst 1, 1) := by decide +kernel
theorem dX11_isLetter_13 : decode cX11_isLetter 13 = .ok (.goto 4, 3) := by decide +kernel
theorem dX11_isLetter_16 : decode cX11_isLetter 16 = .ok (.iconst 0, 1) := by decide +kernel
theorem dX11_isLetter_17 : decode cX11_isLetter 17 = .ok (.ireturn, 1) := by decide +kernel
theorem dX11_faultOfMinutes_0 : decode cX11_faultOfMinutes 0 = .ok (.iload_n 0, 1) := by decide +kernel
theorem dX11_faultOfMinutes_1 : decode cX11_faultOfMinutes 1 = .ok (.iconst 1, 1) := by decide +kernel
theorem dX11_faultOfMinutes_2 : decode cX11_faultOfMinutes 2 = .ok (.if_icmp .lt 15, 3) := by decide +kernel
theorem dX11_faultOfMinutes_5 : decode cX11_faultOfMinutes 5 = .ok (.iload_n 0, 1) := by decide +kernel
theorem dX11_faultOfMinutes_6 : decode cX11_faultOfMinutes 6 = .ok (.bipush 60, 2) := by decide +kernel
theorem dX11_faultOfMinutes_8 : decode cX11_faultOfMinutes 8 = .ok (.if_icmp .gt 9, 3) := by decide +kernel
theorem dX11_faultOfMinutes_11 : decode cX11_faultOfMinutes 11 = .ok (.getstatic 411, 3) := by decide +kernel
theorem dX11_faultOfMinutes_14 : decode cX11_faultOfMinutes 14 = .ok (.goto 6, 3) := by decide +kernel
theorem dX11_faultOfMinutes_17 : decode cX11_faultOfMinutes 17 = .ok (.getstatic 415, 3) := by decide +kernel
theorem dX11_faultOfMinutes_20 : decode cX11_faultOfMinutes 20 = .ok (.areturn, 1) := by decide +kernel
theorem dX9_squaredDistance_0 : decode cX9_squaredDistance 0 = .ok (.aload_n 0, 1) := by decide +kernel
theorem dX9_squaredDistance_1 : decode cX9_squaredDistance 1 = .ok (.getfield 26, 3) := by decide +kernel
theorem dX9_squaredDistance_4 : decode cX9_squaredDistance 4 = .ok (.aload_n 1, 1) := by decide +kernel
theorem dX9_squaredDistance_5 : decode cX9_squaredDistance 5 = .ok (.getfield 26, 3) := by decide +kernel
theorem dX9_squaredDistance_8 : decode cX9_squaredDistance 8 = .ok (.isub, 1) := by decide +kernel
theorem dX9_squaredDistance_9 : decode cX9_squaredDistance 9 = .ok (.istore_n 2, 1) := by decide +kernel
theorem dX9_squaredDistance_10 : decode cX9_squaredDistance 10 = .ok (.aload_n 0, 1) := by decide +kernel
theorem dX9_squaredDistance_11 : decode cX9_squaredDistance 11 = .ok (.getfield 29, 3) := by decide +kernel
theorem dX9_squaredDistance_14 : decode cX9_squaredDistance 14 = .ok (.aload_n 1, 1) := by decide +kernel
theorem dX9_squaredDistance_15 : decode cX9_squaredDistance 15 = .ok (.getfield 29, 3) := by decide +kernel
theorem dX9_squaredDistance_18 : decode cX9_squaredDistance 18 = .ok (.isub, 1) := by decide +kernel
theorem dX9_squaredDistance_19 : decode cX9_squaredDistance 19 = .ok (.istore_n 3, 1) := by decide +kernel
theorem dX9_squaredDistance_20 : decode cX9_squaredDistance 20 = .ok (.iload_n 2, 1) := by decide +kernel
theorem dX9_squaredDistance_21 : decode cX9_squaredDistance 21 = .ok (.iload_n 2, 1) := by decide +kernel
theorem dX9_squaredDistance_22 : decode cX9_squaredDistance 22 = .ok (.imul, 1) := by decide +kernel
theorem dX9_squaredDistance_23 : decode cX9_squaredDistance 23 = .ok (.iload_n 3, 1) := by decide +kernel
theorem dX9_squaredDistance_24 : decode cX9_squaredDistance 24 = .ok (.iload_n 3, 1) := by decide +kernel
theorem dX9_squaredDistance_25 : decode cX9_squaredDistance 25 = .ok (.imul, 1) := by decide +kernel
theorem dX9_squaredDistance_26 : decode cX9_squaredDistance 26 = .ok (.iadd, 1) := by decide +kernel
theorem dX9_squaredDistance_27 : decode cX9_squaredDistance 27 = .ok (.ireturn, 1) := by decide +kernel
theorem dX9_hears_0 : decode cX9_hears 0 = .ok (.aload_n 0, 1) := by decide +kernel
theorem dX9_hears_1 : decode cX9_hears 1 = .ok (.aload_n 1, 1) := by decide +kernel
theorem dX9_hears_2 : decode cX9_hears 2 = .ok (.if_acmp .eq 35, 3) := by decide +kernel
theorem dX9_hears_5 : decode cX9_hears 5 = .ok (.aload_n 0, 1) := by decide +kernel
theorem dX9_hears_6 : decode cX9_hears 6 = .ok (.getfield 35, 3) := by decide +kernel
theorem dX9_hears_9 : decode cX9_hears 9 = .ok (.aload_n 1, 1) := by decide +kernel
theorem dX9_hears_10 : decode cX9_hears 10 = .ok (.getfield 35, 3) := by decide +kernel
theorem dX9_hears_13 : decode cX9_hears 13 = .ok (.if_icmp .ne 24, 3) := by decide +kernel
theorem dX9_hears_16 : decode cX9_hears 16 = .ok (.aload_n 0, 1) := by decide +kernel
theorem dX9_hears_17 : decode cX9_hears 17 = .ok (.aload_n 1, 1) := by decide +kernel
theorem dX9_hears_18 : decode cX9_hears 18 = .ok (.invokevirtual 47, 3) := by decide +kernel
theorem dX9_hears_21 : decode cX9_hears 21 = .ok (.aload_n 1, 1) := by decide +kernel
theorem dX9_hears_22 : decode cX9_hears 22 = .ok (.getfield 32, 3) := by decide +kernel
theorem dX9_hears_25 : decode cX9_hears 25 = .ok (.aload_n 1, 1) := by decide +kernel
theorem dX9_hears_26 : decode cX9_hears 26 = .ok (.getfield 32, 3) := by decide +kernel
theorem dX9_hears_29 : decode cX9_hears 29 = .ok (.imul, 1) := by decide +kernel
theorem dX9_hears_30 : decode cX9_hears 30 = .ok (.if_icmp .gt 7, 3) := by decide +kernel
theorem dX9_hears_33 : decode cX9_hears 33 = .ok (.iconst 1, 1) := by decide +kernel
theorem dX9_hears_34 : decode cX9_hears 34 = .ok (.goto 4, 3) := by decide +kernel
theorem dX9_hears_37 : decode cX9_hears 37 = .ok (.iconst 0, 1) := by decide +kernel
theorem dX9_hears_38 : decode cX9_hears 38 = .ok (.ireturn, 1) := by decide +kernel
theorem dX9_disturbs_0 : decode cX9_disturbs 0 = .ok (.aload_n 0, 1) := by decide +kernel
theorem dX9_disturbs_1 : decode cX9_disturbs 1 = .ok (.getfield 13, 3) := by decide +kernel
theorem dX9_disturbs_4 : decode cX9_disturbs 4 = .ok (.getstatic 51, 3) := by decide +kernel
theorem dX9_disturbs_7 : decode cX9_disturbs 7 = .ok (.if_acmp .ne 42, 3) := by decide +kernel
theorem dX9_disturbs_10 : decode cX9_disturbs 10 = .ok (.aload_n 0, 1) := by decide +kernel
theorem dX9_disturbs_11 : decode cX9_disturbs 11 = .ok (.getfield 35, 3) := by decide +kernel
theorem dX9_disturbs_14 : decode cX9_disturbs 14 = .ok (.aload_n 1, 1) := by decide +kernel
theorem dX9_disturbs_15 : decode cX9_disturbs 15 = .ok (.getfield 35, 3) := by decide +kernel
theorem dX9_disturbs_18 : decode cX9_disturbs 18 = .ok (.isub, 1) := by decide +kernel
theorem dX9_disturbs_19 : decode cX9_disturbs 19 = .ok (.invokestatic 54, 3) := by decide +kernel
theorem dX9_disturbs_22 : decode cX9_disturbs 22 = .ok (.iconst 1, 1) := by decide +kernel
theorem dX9_disturbs_23 : decode cX9_disturbs 23 = .ok (.if_icmp .ne 26, 3) := by decide +kernel
theorem dX9_disturbs_26 : decode cX9_disturbs 26 = .ok (.iconst 4, 1) := by decide +kernel
theorem dX9_disturbs_27 : decode cX9_disturbs 27 = .ok (.aload_n 0, 1) := by decide +kernel
theorem dX9_disturbs_28 : decode cX9_disturbs 28 = .ok (.aload_n 1, 1) := by decide +kernel
theorem dX9_disturbs_29 : decode cX9_disturbs 29 = .ok (.invokevirtual 47, 3) := by decide +kernel
theorem dX9_disturbs_32 : decode cX9_disturbs 32 = .ok (.imul, 1) := by decide +kernel
theorem dX9_disturbs_33 : decode cX9_disturbs 33 = .ok (.aload_n 0, 1) := by decide +kernel
theorem dX9_disturbs_34 : decode cX9_disturbs 34 = .ok (.getfield 32, 3) := by decide +kernel
theorem dX9_disturbs_37 : decode cX9_disturbs 37 = .ok (.aload_n 0, 1) := by decide +kernel
theorem dX9_disturbs_38 : decode cX9_disturbs 38 = .ok (.getfield 32, 3) := by decide +kernel
theorem dX9_disturbs_41 : decode cX9_disturbs 41 = .ok (.imul, 1) := by decide +kernel
theorem dX9_disturbs_42 : decode cX9_disturbs 42 = .ok (.if_icmp .gt 7, 3) := by decide +kernel
theorem dX9_disturbs_45 : decode cX9_disturbs 45 = .ok (.iconst 1, 1) := by decide +kernel
theorem dX9_disturbs_46 : decode cX9_disturbs 46 = .ok (.goto 4, 3) := by decide +kernel
theorem dX9_disturbs_49 : decode cX9_disturbs 49 = .ok (.iconst 0, 1) := by decide +kernel
theorem dX9_disturbs_50 : decode cX9_disturbs 50 = .ok (.ireturn, 1) := by decide +kernel
theorem dX9_ranksBefore_0 : decode cX9_ranksBefore 0 = .ok (.aload_n 0, 1) := by decide +kernel
theorem dX9_ranksBefore_1 : decode cX9_ranksBefore 1 = .ok (.getfield 41, 3) := by decide +kernel
theorem dX9_ranksBefore_4 : decode cX9_ranksBefore 4 = .ok (.aload_n 1, 1) := by decide +kernel
theorem dX9_ranksBefore_5 : decode cX9_ranksBefore 5 = .ok (.getfield 41, 3) := by decide +kernel
theorem dX9_ranksBefore_8 : decode cX9_ranksBefore 8 = .ok (.if_icmp .eq 20, 3) := by decide +kernel
theorem dX9_ranksBefore_11 : decode cX9_ranksBefore 11 = .ok (.aload_n 0, 1) := by decide +kernel
theorem dX9_ranksBefore_12 : decode cX9_ranksBefore 12 = .ok (.getfield 41, 3) := by decide +kernel
theorem dX9_ranksBefore_15 : decode cX9_ranksBefore 15 = .ok (.aload_n 1, 1) := by decide +kernel
theorem dX9_ranksBefore_16 : decode cX9_ranksBefore 16 = .ok (.getfield 41, 3) := by decide +kernel
theorem dX9_ranksBefore_19 : decode cX9_ranksBefore 19 = .ok (.if_icmp .le 7, 3) := by decide +kernel
theorem dX9_ranksBefore_22 : decode cX9_ranksBefore 22 = .ok (.iconst 1, 1) := by decide +kernel
theorem dX9_ranksBefore_23 : decode cX9_ranksBefore 23 = .ok (.goto 4, 3) := by decide +kernel
theorem dX9_ranksBefore_26 : decode cX9_ranksBefore 26 = .ok (.iconst 0, 1) := by decide +kernel
theorem dX9_ranksBefore_27 : decode cX9_ranksBefore 27 = .ok (.ireturn, 1) := by decide +kernel
theorem dX9_ranksBefore_28 : decode cX9_ranksBefore 28 = .ok (.aload_n 0, 1) := by decide +kernel
theorem dX9_ranksBefore_29 : decode cX9_ranksBefore 29 = .ok (.getfield 44, 3) := by decide +kernel
theorem dX9_ranksBefore_32 : decode cX9_ranksBefore 32 = .ok (.aload_n 1, 1) := by decide +kernel
theorem dX9_ranksBefore_33 : decode cX9_ranksBefore 33 = .ok (.getfield 44, 3) := by decide +kernel
theorem dX9_ranksBefore_36 : decode cX9_ranksBefore 36 = .ok (.if_icmp .eq 20, 3) := by decide +kernel
theorem dX9_ranksBefore_39 : decode cX9_ranksBefore 39 = .ok (.aload_n 0, 1) := by decide +kernel
theorem dX9_ranksBefore_40 : decode cX9_ranksBefore 40 = .ok (.getfield 44, 3) := by decide +kernel
theorem dX9_ranksBefore_43 : decode cX9_ranksBefore 43 = .ok (.aload_n 1, 1) := by decide +kernel
theorem dX9_ranksBefore_44 : decode cX9_ranksBefore 44 = .ok (.getfield 44, 3) := by decide +kernel
theorem dX9_ranksBefore_47 : decode cX9_ranksBefore 47 = .ok (.if_icmp .le 7, 3) := by decide +kernel
theorem dX9_ranksBefore_50 : decode cX9_ranksBefore 50 = .ok (.iconst 1, 1) := by decide +kernel
theorem dX9_ranksBefore_51 : decode cX9_ranksBefore 51 = .ok (.goto 4, 3) := by decide +kernel
theorem dX9_ranksBefore_54 : decode cX9_ranksBefore 54 = .ok (.iconst 0, 1) := by decide +kernel
theorem dX9_ranksBefore_55 : decode cX9_ranksBefore 55 = .ok (.ireturn, 1) := by decide +kernel
theorem dX9_ranksBefore_56 : decode cX9_ranksBefore 56 = .ok (.aload_n 0, 1) := by decide +kernel
theorem dX9_ranksBefore_57 : decode cX9_ranksBefore 57 = .ok (.getfield 18, 3) := by decide +kernel
theorem dX9_ranksBefore_60 : decode cX9_ranksBefore 60 = .ok (.aload_n 1, 1) := by decide +kernel
theorem dX9_ranksBefore_61 : decode cX9_ranksBefore 61 = .ok (.getfield 18, 3) := by decide +kernel
theorem dX9_ranksBefore_64 : decode cX9_ranksBefore 64 = .ok (.if_icmp .eq 20, 3) := by decide +kernel
theorem dX9_ranksBefore_67 : decode cX9_ranksBefore 67 = .ok (.aload_n 0, 1) := by decide +kernel
theorem dX9_ranksBefore_68 : decode cX9_ranksBefore 68 = .ok (.getfield 18, 3) := by decide +kernel
theorem dX9_ranksBefore_71 : decode cX9_ranksBefore 71 = .ok (.aload_n 1, 1) := by decide +kernel
theorem dX9_ranksBefore_72 : decode cX9_ranksBefore 72 = .ok (.getfield 18, 3) := by decide +kernel
theorem dX9_ranksBefore_75 : decode cX9_ranksBefore 75 = .ok (.if_icmp .ge 7, 3) := by decide +kernel
theorem dX9_ranksBefore_78 : decode cX9_ranksBefore 78 = .ok (.iconst 1, 1) := by decide +kernel
theorem dX9_ranksBefore_79 : decode cX9_ranksBefore 79 = .ok (.goto 4, 3) := by decide +kernel
theorem dX9_ranksBefore_82 : decode cX9_ranksBefore 82 = .ok (.iconst 0, 1) := by decide +kernel
theorem dX9_ranksBefore_83 : decode cX9_ranksBefore 83 = .ok (.ireturn, 1) := by decide +kernel
theorem dX9_ranksBefore_84 : decode cX9_ranksBefore 84 = .ok (.aload_n 0, 1) := by decide +kernel
theorem dX9_ranksBefore_85 : decode cX9_ranksBefore 85 = .ok (.getfield 22, 3) := by decide +kernel
theorem dX9_ranksBefore_88 : decode cX9_ranksBefore 88 = .ok (.aload_n 1, 1) := by decide +kernel
theorem dX9_ranksBefore_89 : decode cX9_ranksBefore 89 = .ok (.getfield 22, 3) := by decide +kernel
theorem dX9_ranksBefore_92 : decode cX9_ranksBefore 92 = .ok (.if_icmp .ge 7, 3) := by decide +kernel
theorem dX9_ranksBefore_95 : decode cX9_ranksBefore 95 = .ok (.iconst 1, 1) := by decide +kernel
theorem dX9_ranksBefore_96 : decode cX9_ranksBefore 96 = .ok (.goto 4, 3) := by decide +kernel
theorem dX9_ranksBefore_99 : decode cX9_ranksBefore 99 = .ok (.iconst 0, 1) := by decide +kernel
theorem dX9_ranksBefore_100 : decode cX9_ranksBefore 100 = .ok (.ireturn, 1) := by decide +kernel
theorem dX10_add_0 : decode cX10_add 0 = .ok (.aload_n 0, 1) := by decide +kernel
theorem dX10_add_1 : decode cX10_add 1 = .ok (.getfield 21, 3) := by decide +kernel
theorem dX10_add_4 : decode cX10_add 4 = .ok (.bipush 16, 2) := by decide +kernel
theorem dX10_add_6 : decode cX10_add 6 = .ok (.if_icmp .lt 73, 3) := by decide +kernel
theorem dX10_add_9 : decode cX10_add 9 = .ok (.iconst 1, 1) := by decide +kernel
theorem dX10_add_10 : decode cX10_add 10 = .ok (.istore 4, 2) := by decide +kernel
theorem dX10_add_12 : decode cX10_add 12 = .ok (.iload 4, 2) := by decide +kernel
theorem dX10_add_14 : decode cX10_add 14 = .ok (.bipush 16, 2) := by decide +kernel
theorem dX10_add_16 : decode cX10_add 16 = .ok (.if_icmp .ge 57, 3) := by decide +kernel
theorem dX10_add_19 : decode cX10_add 19 = .ok (.aload_n 0, 1) := by decide +kernel
theorem dX10_add_20 : decode cX10_add 20 = .ok (.getfield 9, 3) := by decide +kernel
theorem dX10_add_23 : decode cX10_add 23 = .ok (.iload 4, 2) := by decide +kernel
theorem dX10_add_25 : decode cX10_add 25 = .ok (.iconst 1, 1) := by decide +kernel
theorem dX10_add_26 : decode cX10_add 26 = .ok (.isub, 1) := by decide +kernel
theorem dX10_add_27 : decode cX10_add 27 = .ok (.aload_n 0, 1) := by decide +kernel
theorem dX10_add_28 : decode cX10_add 28 = .ok (.getfield 9, 3) := by decide +kernel
theorem dX10_add_31 : decode cX10_add 31 = .ok (.iload 4, 2) := by decide +kernel
theorem dX10_add_33 : decode cX10_add 33 = .ok (.iaload, 1) := by decide +kernel
theorem dX10_add_34 : decode cX10_add 34 = .ok (.iastore, 1) := by decide +kernel
theorem dX10_add_35 : decode cX10_add 35 = .ok (.aload_n 0, 1) := by decide +kernel
theorem dX10_add_36 : decode cX10_add 36 = .ok (.getfield 15, 3) := by decide +kernel
theorem dX10_add_39 : decode cX10_add 39 = .ok (.iload 4, 2) := by decide +kernel
theorem dX10_add_41 : decode cX10_add 41 = .ok (.iconst 1, 1) := by decide +kernel
theorem dX10_add_42 : decode cX10_add 42 = .ok (.isub, 1) := by decide +kernel
theorem dX10_add_43 : decode cX10_add 43 = .ok (.aload_n 0, 1) := by decide +kernel
theorem dX10_add_44 : decode cX10_add 44 = .ok (.getfield 15, 3) := by decide +kernel
theorem dX10_add_47 : decode cX10_add 47 = .ok (.iload 4, 2) := by decide +kernel
theorem dX10_add_49 : decode cX10_add 49 = .ok (.iaload, 1) := by decide +kernel
theorem dX10_add_50 : decode cX10_add 50 = .ok (.iastore, 1) := by decide +kernel
theorem dX10_add_51 : decode cX10_add 51 = .ok (.aload_n 0, 1) := by decide +kernel
theorem dX10_add_52 : decode cX10_add 52 = .ok (.getfield 18, 3) := by decide +kernel
theorem dX10_add_55 : decode cX10_add 55 = .ok (.iload 4, 2) := by decide +kernel
theorem dX10_add_57 : decode cX10_add 57 = .ok (.iconst 1, 1) := by decide +kernel
theorem dX10_add_58 : decode cX10_add 58 = .ok (.isub, 1) := by decide +kernel
theorem dX10_add_59 : decode cX10_add 59 = .ok (.aload_n 0, 1) := by decide +kernel
theorem dX10_add_60 : decode cX10_add 60 = .ok (.getfield 18, 3) := by decide +kernel
theorem dX10_add_63 : decode cX10_add 63 = .ok (.iload 4, 2) := by decide +kernel
theorem dX10_add_65 : decode cX10_add 65 = .ok (.iaload, 1) := by decide +kernel
theorem dX10_add_66 : decode cX10_add 66 = .ok (.iastore, 1) := by decide +kernel
theorem dX10_add_67 : decode cX10_add 67 = .ok (.iinc 4 1, 3) := by decide +kernel
theorem dX10_add_70 : decode cX10_add 70 = .ok (.goto (-58), 3) := by decide +kernel
theorem dX10_add_73 : decode cX10_add 73 = .ok (.aload_n 0, 1) := by decide +kernel
theorem dX10_add_74 : decode cX10_add 74 = .ok (.bipush 15, 2) := by decide +kernel
theorem dX10_add_76 : decode cX10_add 76 = .ok (.putfield 21, 3) := by decide +kernel
theorem dX10_add_79 : decode cX10_add 79 = .ok (.aload_n 0, 1) := by decide +kernel
theorem dX10_add_80 : decode cX10_add 80 = .ok (.getfield 9, 3) := by decide +kernel
theorem dX10_add_83 : decode cX10_add 83 = .ok (.aload_n 0, 1) := by decide +kernel
theorem dX10_add_84 : decode cX10_add 84 = .ok (.getfield 21, 3) := by decide +kernel
theorem dX10_add_87 : decode cX10_add 87 = .ok (.iload_n 1, 1) := by decide +kernel
theorem dX10_add_88 : decode cX10_add 88 = .ok (.iastore, 1) := by decide +kernel
theorem dX10_add_89 : decode cX10_add 89 = .ok (.aload_n 0, 1) := by decide +kernel
theorem dX10_add_90 : decode cX10_add 90 = .ok (.getfield 15, 3) := by decide +kernel
theorem dX10_add_93 : decode cX10_add 93 = .ok (.aload_n 0, 1) := by decide +kernel
theorem dX10_add_94 : decode cX10_add 94 = .ok (.getfield 21, 3) := by decide +kernel
theorem dX10_add_97 : decode cX10_add 97 = .ok (.iload_n 2, 1) := by decide +kernel
theorem dX10_add_98 : decode cX10_add 98 = .ok (.iastore, 1) := by decide +kernel
theorem dX10_add_99 : decode cX10_add 99 = .ok (.aload_n 0, 1) := by decide +kernel
theorem dX10_add_100 : decode cX10_add 100 = .ok (.getfield 18, 3) := by decide +kernel
theorem dX10_add_103 : decode cX10_add 103 = .ok (.aload_n 0, 1) := by decide +kernel
theorem dX10_add_104 : decode cX10_add 104 = .ok (.getfield 21, 3) := by decide +kernel
theorem dX10_add_107 : decode cX10_add 107 = .ok (.iload_n 3, 1) := by decide +kernel
theorem dX10_add_108 : decode cX10_add 108 = .ok (.iastore, 1) := by decide +kernel
theorem dX10_add_109 : decode cX10_add 109 = .ok (.aload_n 0, 1) := by decide +kernel
theorem dX10_add_110 : decode cX10_add 110 = .ok (.dup, 1) := by decide +kernel
theorem dX10_add_111 : decode cX10_add 111 = .ok (.getfield 21, 3) := by decide +kernel
theorem dX10_add_114 : decode cX10_add 114 = .ok (.iconst 1, 1) := by decide +kernel
theorem dX10_add_115 : decode cX10_add 115 = .ok (.iadd, 1) := by decide +kernel
theorem dX10_add_116 : decode cX10_add 116 = .ok (.putfield 21, 3) := by decide +kernel
theorem dX10_add_119 : decode cX10_add 119 = .ok (.return_, 1) := by decide +kernel
theorem dX6_has_0 : decode cX6_has 0 = .ok (.iload_n 1, 1) := by decide +kernel
theorem dX6_has_1 : decode cX6_has 1 = .ok (.ifCond .lt 15, 3) := by decide +kernel
theorem dX6_has_4 : decode cX6_has 4 = .ok (.iload_n 1, 1) := by decide +kernel
theorem dX6_has_5 : decode cX6_has 5 = .ok (.aload_n 0, 1) := by decide +kernel
theorem dX6_has_6 : decode cX6_has 6 = .ok (.getfield 18, 3) := by decide +kernel
theorem dX6_has_9 : decode cX6_has 9 = .ok (.if_icmp .ge 7, 3) := by decide +kernel
theorem dX6_has_12 : decode cX6_has 12 = .ok (.iconst 1, 1) := by decide +kernel
theorem dX6_has_13 : decode cX6_has 13 = .ok (.goto 4, 3) := by decide +kernel
theorem dX6_has_16 : decode cX6_has 16 = .ok (.iconst 0, 1) := by decide +kernel
theorem dX6_has_17 : decode cX6_has 17 = .ok (.ireturn, 1) := by decide +kernel
theorem dX6_speakerOn_0 : decode cX6_speakerOn 0 = .ok (.iconst 0, 1) := by decide +kernel
theorem dX6_speakerOn_1 : decode cX6_speakerOn 1 = .ok (.istore_n 2, 1) := by decide +kernel
theorem dX6_speakerOn_2 : decode cX6_speakerOn 2 = .ok (.iload_n 2, 1) := by decide +kernel
theorem dX6_speakerOn_3 : decode cX6_speakerOn 3 = .ok (.aload_n 0, 1) := by decide +kernel
theorem dX6_speakerOn_4 : decode cX6_speakerOn 4 = .ok (.getfield 18, 3) := by decide +kernel
theorem dX6_speakerOn_7 : decode cX6_speakerOn 7 = .ok (.if_icmp .ge 39, 3) := by decide +kernel
theorem dX6_speakerOn_10 : decode cX6_speakerOn 10 = .ok (.aload_n 0, 1) := by decide +kernel
theorem dX6_speakerOn_11 : decode cX6_speakerOn 11 = .ok (.getfield 11, 3) := by decide +kernel
theorem dX6_speakerOn_14 : decode cX6_speakerOn 14 = .ok (.iload_n 2, 1) := by decide +kernel
theorem dX6_speakerOn_15 : decode cX6_speakerOn 15 = .ok (.aaload, 1) := by decide +kernel
theorem dX6_speakerOn_16 : decode cX6_speakerOn 16 = .ok (.getfield 118, 3) := by decide +kernel
theorem dX6_speakerOn_19 : decode cX6_speakerOn 19 = .ok (.iload_n 1, 1) := by decide +kernel
theorem dX6_speakerOn_20 : decode cX6_speakerOn 20 = .ok (.if_icmp .ne 20, 3) := by decide +kernel
theorem dX6_speakerOn_23 : decode cX6_speakerOn 23 = .ok (.aload_n 0, 1) := by decide +kernel
theorem dX6_speakerOn_24 : decode cX6_speakerOn 24 = .ok (.getfield 11, 3) := by decide +kernel
theorem dX6_speakerOn_27 : decode cX6_speakerOn 27 = .ok (.iload_n 2, 1) := by decide +kernel
theorem dX6_speakerOn_28 : decode cX6_speakerOn 28 = .ok (.aaload, 1) := by decide +kernel
theorem dX6_speakerOn_29 : decode cX6_speakerOn 29 = .ok (.getfield 99, 3) := by decide +kernel
theorem dX6_speakerOn_32 : decode cX6_speakerOn 32 = .ok (.getstatic 148, 3) := by decide +kernel
theorem dX6_speakerOn_35 : decode cX6_speakerOn 35 = .ok (.if_acmp .ne 5, 3) := by decide +kernel
theorem dX6_speakerOn_38 : decode cX6_speakerOn 38 = .ok (.iload_n 2, 1) := by decide +kernel
theorem dX6_speakerOn_39 : decode cX6_speakerOn 39 = .ok (.ireturn, 1) := by decide +kernel
theorem dX6_speakerOn_40 : decode cX6_speakerOn 40 = .ok (.iinc 2 1, 3) := by decide +kernel
theorem dX6_speakerOn_43 : decode cX6_speakerOn 43 = .ok (.goto (-41), 3) := by decide +kernel
theorem dX6_speakerOn_46 : decode cX6_speakerOn 46 = .ok (.iconst (-1), 1) := by decide +kernel
theorem dX6_speakerOn_47 : decode cX6_speakerOn 47 = .ok (.ireturn, 1) := by decide +kernel
theorem dX6_waitingOn_0 : decode cX6_waitingOn 0 = .ok (.iconst 0, 1) := by decide +kernel
theorem dX6_waitingOn_1 : decode cX6_waitingOn 1 = .ok (.istore_n 2, 1) := by decide +kernel
theorem dX6_waitingOn_2 : decode cX6_waitingOn 2 = .ok (.iconst 0, 1) := by decide +kernel
theorem dX6_waitingOn_3 : decode cX6_waitingOn 3 = .ok (.istore_n 3, 1) := by decide +kernel
theorem dX6_waitingOn_4 : decode cX6_waitingOn 4 = .ok (.iload_n 3, 1) := by decide +kernel
theorem dX6_waitingOn_5 : decode cX6_waitingOn 5 = .ok (.aload_n 0, 1) := by decide +kernel
theorem dX6_waitingOn_6 : decode cX6_waitingOn 6 = .ok (.getfield 26, 3) := by decide +kernel
theorem dX6_waitingOn_9 : decode cX6_waitingOn 9 = .ok (.if_icmp .ge 30, 3) := by decide +kernel
theorem dX6_waitingOn_12 : decode cX6_waitingOn 12 = .ok (.aload_n 0, 1) := by decide +kernel
theorem dX6_waitingOn_13 : decode cX6_waitingOn 13 = .ok (.getfield 11, 3) := by decide +kernel
theorem dX6_waitingOn_16 : decode cX6_waitingOn 16 = .ok (.aload_n 0, 1) := by decide +kernel
theorem dX6_waitingOn_17 : decode cX6_waitingOn 17 = .ok (.getfield 22, 3) := by decide +kernel
theorem dX6_waitingOn_20 : decode cX6_waitingOn 20 = .ok (.iload_n 3, 1) := by decide +kernel
theorem dX6_waitingOn_21 : decode cX6_waitingOn 21 = .ok (.iaload, 1) := by decide +kernel
theorem dX6_waitingOn_22 : decode cX6_waitingOn 22 = .ok (.aaload, 1) := by decide +kernel
theorem dX6_waitingOn_23 : decode cX6_waitingOn 23 = .ok (.getfield 118, 3) := by decide +kernel
theorem dX6_waitingOn_26 : decode cX6_waitingOn 26 = .ok (.iload_n 1, 1) := by decide +kernel
theorem dX6_waitingOn_27 : decode cX6_waitingOn 27 = .ok (.if_icmp .ne 6, 3) := by decide +kernel
theorem dX6_waitingOn_30 : decode cX6_waitingOn 30 = .ok (.iinc 2 1, 3) := by decide +kernel
theorem dX6_waitingOn_33 : decode cX6_waitingOn 33 = .ok (.iinc 3 1, 3) := by decide +kernel
theorem dX6_waitingOn_36 : decode cX6_waitingOn 36 = .ok (.goto (-32), 3) := by decide +kernel
theorem dX6_waitingOn_39 : decode cX6_waitingOn 39 = .ok (.iload_n 2, 1) := by decide +kernel
theorem dX6_waitingOn_40 : decode cX6_waitingOn 40 = .ok (.ireturn, 1) := by decide +kernel
theorem dX6_stationInLine_0 : decode cX6_stationInLine 0 = .ok (.iconst 0, 1) := by decide +kernel
theorem dX6_stationInLine_1 : decode cX6_stationInLine 1 = .ok (.istore_n 3, 1) := by decide +kernel
theorem dX6_stationInLine_2 : decode cX6_stationInLine 2 = .ok (.iconst 0, 1) := by decide +kernel
theorem dX6_stationInLine_3 : decode cX6_stationInLine 3 = .ok (.istore 4, 2) := by decide +kernel
theorem dX6_stationInLine_5 : decode cX6_stationInLine 5 = .ok (.iload 4, 2) := by decide +kernel
theorem dX6_stationInLine_7 : decode cX6_stationInLine 7 = .ok (.aload_n 0, 1) := by decide +kernel
theorem dX6_stationInLine_8 : decode cX6_stationInLine 8 = .ok (.getfield 26, 3) := by decide +kernel
theorem dX6_stationInLine_11 : decode cX6_stationInLine 11 = .ok (.if_icmp .ge 44, 3) := by decide +kernel
theorem dX6_stationInLine_14 : decode cX6_stationInLine 14 = .ok (.aload_n 0, 1) := by decide +kernel
theorem dX6_stationInLine_15 : decode cX6_stationInLine 15 = .ok (.getfield 11, 3) := by decide +kernel
theorem dX6_stationInLine_18 : decode cX6_stationInLine 18 = .ok (.aload_n 0, 1) := by decide +kernel
theorem dX6_stationInLine_19 : decode cX6_stationInLine 19 = .ok (.getfield 22, 3) := by decide +kernel
theorem dX6_stationInLine_22 : decode cX6_stationInLine 22 = .ok (.iload 4, 2) := by decide +kernel
theorem dX6_stationInLine_24 : decode cX6_stationInLine 24 = .ok (.iaload, 1) := by decide +kernel
theorem dX6_stationInLine_25 : decode cX6_stationInLine 25 = .ok (.aaload, 1) := by decide +kernel
theorem dX6_stationInLine_26 : decode cX6_stationInLine 26 = .ok (.getfield 118, 3) := by decide +kernel
theorem dX6_stationInLine_29 : decode cX6_stationInLine 29 = .ok (.iload_n 1, 1) := by decide +kernel
theorem dX6_stationInLine_30 : decode cX6_stationInLine 30 = .ok (.if_icmp .ne 19, 3) := by decide +kernel
theorem dX6_stationInLine_33 : decode cX6_stationInLine 33 = .ok (.iinc 3 1, 3) := by decide +kernel
theorem dX6_stationInLine_36 : decode cX6_stationInLine 36 = .ok (.iload_n 3, 1) := by decide +kernel
theorem dX6_stationInLine_37 : decode cX6_stationInLine 37 = .ok (.iload_n 2, 1) := by decide +kernel
theorem dX6_stationInLine_38 : decode cX6_stationInLine 38 = .ok (.if_icmp .ne 11, 3) := by decide +kernel
theorem dX6_stationInLine_41 : decode cX6_stationInLine 41 = .ok (.aload_n 0, 1) := by decide +kernel
theorem dX6_stationInLine_42 : decode cX6_stationInLine 42 = .ok (.getfield 22, 3) := by decide +kernel
theorem dX6_stationInLine_45 : decode cX6_stationInLine 45 = .ok (.iload 4, 2) := by decide +kernel
theorem dX6_stationInLine_47 : decode cX6_stationInLine 47 = .ok (.iaload, 1) := by decide +kernel
theorem dX6_stationInLine_48 : decode cX6_stationInLine 48 = .ok (.ireturn, 1) := by decide +kernel
theorem dX6_stationInLine_49 : decode cX6_stationInLine 49 = .ok (.iinc 4 1, 3) := by decide +kernel
theorem dX6_stationInLine_52 : decode cX6_stationInLine 52 = .ok (.goto (-47), 3) := by decide +kernel
theorem dX6_stationInLine_55 : decode cX6_stationInLine 55 = .ok (.iconst (-1), 1) := by decide +kernel
theorem dX6_stationInLine_56 : decode cX6_stationInLine 56 = .ok (.ireturn, 1) := by decide +kernel
theorem dX6_hearsSpeaker_0 : decode cX6_hearsSpeaker 0 = .ok (.aload_n 0, 1) := by decide +kernel
theorem dX6_hearsSpeaker_1 : decode cX6_hearsSpeaker 1 = .ok (.aload_n 1, 1) := by decide +kernel
theorem dX6_hearsSpeaker_2 : decode cX6_hearsSpeaker 2 = .ok (.getfield 118, 3) := by decide +kernel
theorem dX6_hearsSpeaker_5 : decode cX6_hearsSpeaker 5 = .ok (.invokevirtual 134, 3) := by decide +kernel
theorem dX6_hearsSpeaker_8 : decode cX6_hearsSpeaker 8 = .ok (.istore_n 2, 1) := by decide +kernel
theorem dX6_hearsSpeaker_9 : decode cX6_hearsSpeaker 9 = .ok (.iload_n 2, 1) := by decide +kernel
theorem dX6_hearsSpeaker_10 : decode cX6_hearsSpeaker 10 = .ok (.ifCond .lt 20, 3) := by decide +kernel
theorem dX6_hearsSpeaker_13 : decode cX6_hearsSpeaker 13 = .ok (.aload_n 1, 1) := by decide +kernel
theorem dX6_hearsSpeaker_14 : decode cX6_hearsSpeaker 14 = .ok (.aload_n 0, 1) := by decide +kernel
theorem dX6_hearsSpeaker_15 : decode cX6_hearsSpeaker 15 = .ok (.getfield 11, 3) := by decide +kernel
theorem dX6_hearsSpeaker_18 : decode cX6_hearsSpeaker 18 = .ok (.iload_n 2, 1) := by decide +kernel
theorem dX6_hearsSpeaker_19 : decode cX6_hearsSpeaker 19 = .ok (.aaload, 1) := by decide +kernel
theorem dX6_hearsSpeaker_20 : decode cX6_hearsSpeaker 20 = .ok (.invokevirtual 130, 3) := by decide +kernel
theorem dX6_hearsSpeaker_23 : decode cX6_hearsSpeaker 23 = .ok (.ifCond .eq 7, 3) := by decide +kernel
theorem dX6_hearsSpeaker_26 : decode cX6_hearsSpeaker 26 = .ok (.iconst 1, 1) := by decide +kernel
theorem dX6_hearsSpeaker_27 : decode cX6_hearsSpeaker 27 = .ok (.goto 4, 3) := by decide +kernel
theorem dX6_hearsSpeaker_30 : decode cX6_hearsSpeaker 30 = .ok (.iconst 0, 1) := by decide +kernel
theorem dX6_hearsSpeaker_31 : decode cX6_hearsSpeaker 31 = .ok (.ireturn, 1) := by decide +kernel
theorem dX6_anyJams_0 : decode cX6_anyJams 0 = .ok (.iconst 0, 1) := by decide +kernel
theorem dX6_anyJams_1 : decode cX6_anyJams 1 = .ok (.istore_n 2, 1) := by decide +kernel
theorem dX6_anyJams_2 : decode cX6_anyJams 2 = .ok (.iload_n 2, 1) := by decide +kernel
theorem dX6_anyJams_3 : decode cX6_anyJams 3 = .ok (.aload_n 0, 1) := by decide +kernel
theorem dX6_anyJams_4 : decode cX6_anyJams 4 = .ok (.getfield 18, 3) := by decide +kernel
theorem dX6_anyJams_7 : decode cX6_anyJams 7 = .ok (.if_icmp .ge 24, 3) := by decide +kernel
theorem dX6_anyJams_10 : decode cX6_anyJams 10 = .ok (.aload_n 0, 1) := by decide +kernel
theorem dX6_anyJams_11 : decode cX6_anyJams 11 = .ok (.getfield 11, 3) := by decide +kernel
theorem dX6_anyJams_14 : decode cX6_anyJams 14 = .ok (.iload_n 2, 1) := by decide +kernel
theorem dX6_anyJams_15 : decode cX6_anyJams 15 = .ok (.aaload, 1) := by decide +kernel
theorem dX6_anyJams_16 : decode cX6_anyJams 16 = .ok (.aload_n 1, 1) := by decide +kernel
theorem dX6_anyJams_17 : decode cX6_anyJams 17 = .ok (.invokevirtual 186, 3) := by decide +kernel
theorem dX6_anyJams_20 : decode cX6_anyJams 20 = .ok (.ifCond .eq 5, 3) := by decide +kernel
theorem dX6_anyJams_23 : decode cX6_anyJams 23 = .ok (.iconst 1, 1) := by decide +kernel
theorem dX6_anyJams_24 : decode cX6_anyJams 24 = .ok (.ireturn, 1) := by decide +kernel
theorem dX6_anyJams_25 : decode cX6_anyJams 25 = .ok (.iinc 2 1, 3) := by decide +kernel
theorem dX6_anyJams_28 : decode cX6_anyJams 28 = .ok (.goto (-26), 3) := by decide +kernel
theorem dX6_anyJams_31 : decode cX6_anyJams 31 = .ok (.iconst 0, 1) := by decide +kernel
theorem dX6_anyJams_32 : decode cX6_anyJams 32 = .ok (.ireturn, 1) := by decide +kernel
theorem dX6_stationOfSign_0 : decode cX6_stationOfSign 0 = .ok (.iconst 0, 1) := by decide +kernel
theorem dX6_stationOfSign_1 : decode cX6_stationOfSign 1 = .ok (.istore_n 3, 1) := by decide +kernel
theorem dX6_stationOfSign_2 : decode cX6_stationOfSign 2 = .ok (.iload_n 3, 1) := by decide +kernel
theorem dX6_stationOfSign_3 : decode cX6_stationOfSign 3 = .ok (.aload_n 0, 1) := by decide +kernel
theorem dX6_stationOfSign_4 : decode cX6_stationOfSign 4 = .ok (.getfield 18, 3) := by decide +kernel
theorem dX6_stationOfSign_7 : decode cX6_stationOfSign 7 = .ok (.if_icmp .ge 37, 3) := by decide +kernel
theorem dX6_stationOfSign_10 : decode cX6_stationOfSign 10 = .ok (.aload_n 0, 1) := by decide +kernel
theorem dX6_stationOfSign_11 : decode cX6_stationOfSign 11 = .ok (.getfield 11, 3) := by decide +kernel
theorem dX6_stationOfSign_14 : decode cX6_stationOfSign 14 = .ok (.iload_n 3, 1) := by decide +kernel
theorem dX6_stationOfSign_15 : decode cX6_stationOfSign 15 = .ok (.aaload, 1) := by decide +kernel
theorem dX6_stationOfSign_16 : decode cX6_stationOfSign 16 = .ok (.getfield 102, 3) := by decide +kernel
theorem dX6_stationOfSign_19 : decode cX6_stationOfSign 19 = .ok (.iload_n 1, 1) := by decide +kernel
theorem dX6_stationOfSign_20 : decode cX6_stationOfSign 20 = .ok (.if_icmp .ne 18, 3) := by decide +kernel
theorem dX6_stationOfSign_23 : decode cX6_stationOfSign 23 = .ok (.aload_n 0, 1) := by decide +kernel
theorem dX6_stationOfSign_24 : decode cX6_stationOfSign 24 = .ok (.getfield 11, 3) := by decide +kernel
theorem dX6_stationOfSign_27 : decode cX6_stationOfSign 27 = .ok (.iload_n 3, 1) := by decide +kernel
theorem dX6_stationOfSign_28 : decode cX6_stationOfSign 28 = .ok (.aaload, 1) := by decide +kernel
theorem dX6_stationOfSign_29 : decode cX6_stationOfSign 29 = .ok (.getfield 106, 3) := by decide +kernel
theorem dX6_stationOfSign_32 : decode cX6_stationOfSign 32 = .ok (.iload_n 2, 1) := by decide +kernel
theorem dX6_stationOfSign_33 : decode cX6_stationOfSign 33 = .ok (.if_icmp .ne 5, 3) := by decide +kernel
theorem dX6_stationOfSign_36 : decode cX6_stationOfSign 36 = .ok (.iload_n 3, 1) := by decide +kernel
theorem dX6_stationOfSign_37 : decode cX6_stationOfSign 37 = .ok (.ireturn, 1) := by decide +kernel
theorem dX6_stationOfSign_38 : decode cX6_stationOfSign 38 = .ok (.iinc 3 1, 3) := by decide +kernel
theorem dX6_stationOfSign_41 : decode cX6_stationOfSign 41 = .ok (.goto (-39), 3) := by decide +kernel
theorem dX6_stationOfSign_44 : decode cX6_stationOfSign 44 = .ok (.iconst (-1), 1) := by decide +kernel
theorem dX6_stationOfSign_45 : decode cX6_stationOfSign 45 = .ok (.ireturn, 1) := by decide +kernel
theorem dX6_stationOfRank_0 : decode cX6_stationOfRank 0 = .ok (.iconst 0, 1) := by decide +kernel
theorem dX6_stationOfRank_1 : decode cX6_stationOfRank 1 = .ok (.istore_n 2, 1) := by decide +kernel
theorem dX6_stationOfRank_2 : decode cX6_stationOfRank 2 = .ok (.iload_n 2, 1) := by decide +kernel
theorem dX6_stationOfRank_3 : decode cX6_stationOfRank 3 = .ok (.aload_n 0, 1) := by decide +kernel
theorem dX6_stationOfRank_4 : decode cX6_stationOfRank 4 = .ok (.getfield 18, 3) := by decide +kernel
theorem dX6_stationOfRank_7 : decode cX6_stationOfRank 7 = .ok (.if_icmp .ge 58, 3) := by decide +kernel
theorem dX6_stationOfRank_10 : decode cX6_stationOfRank 10 = .ok (.iconst 0, 1) := by decide +kernel
theorem dX6_stationOfRank_11 : decode cX6_stationOfRank 11 = .ok (.istore_n 3, 1) := by decide +kernel
theorem dX6_stationOfRank_12 : decode cX6_stationOfRank 12 = .ok (.iconst 0, 1) := by decide +kernel
theorem dX6_stationOfRank_13 : decode cX6_stationOfRank 13 = .ok (.istore 4, 2) := by decide +kernel
theorem dX6_stationOfRank_15 : decode cX6_stationOfRank 15 = .ok (.iload 4, 2) := by decide +kernel
theorem dX6_stationOfRank_17 : decode cX6_stationOfRank 17 = .ok (.aload_n 0, 1) := by decide +kernel
theorem dX6_stationOfRank_18 : decode cX6_stationOfRank 18 = .ok (.getfield 18, 3) := by decide +kernel
theorem dX6_stationOfRank_21 : decode cX6_stationOfRank 21 = .ok (.if_icmp .ge 31, 3) := by decide +kernel
theorem dX6_stationOfRank_24 : decode cX6_stationOfRank 24 = .ok (.aload_n 0, 1) := by decide +kernel
theorem dX6_stationOfRank_25 : decode cX6_stationOfRank 25 = .ok (.getfield 11, 3) := by decide +kernel
theorem dX6_stationOfRank_28 : decode cX6_stationOfRank 28 = .ok (.iload 4, 2) := by decide +kernel
theorem dX6_stationOfRank_30 : decode cX6_stationOfRank 30 = .ok (.aaload, 1) := by decide +kernel
theorem dX6_stationOfRank_31 : decode cX6_stationOfRank 31 = .ok (.aload_n 0, 1) := by decide +kernel
theorem dX6_stationOfRank_32 : decode cX6_stationOfRank 32 = .ok (.getfield 11, 3) := by decide +kernel
theorem dX6_stationOfRank_35 : decode cX6_stationOfRank 35 = .ok (.iload_n 2, 1) := by decide +kernel
theorem dX6_stationOfRank_36 : decode cX6_stationOfRank 36 = .ok (.aaload, 1) := by decide +kernel
theorem dX6_stationOfRank_37 : decode cX6_stationOfRank 37 = .ok (.invokevirtual 178, 3) := by decide +kernel
theorem dX6_stationOfRank_40 : decode cX6_stationOfRank 40 = .ok (.ifCond .eq 6, 3) := by decide +kernel
theorem dX6_stationOfRank_43 : decode cX6_stationOfRank 43 = .ok (.iinc 3 1, 3) := by decide +kernel
theorem dX6_stationOfRank_46 : decode cX6_stationOfRank 46 = .ok (.iinc 4 1, 3) := by decide +kernel
theorem dX6_stationOfRank_49 : decode cX6_stationOfRank 49 = .ok (.goto (-34), 3) := by decide +kernel
theorem dX6_stationOfRank_52 : decode cX6_stationOfRank 52 = .ok (.iload_n 3, 1) := by decide +kernel
theorem dX6_stationOfRank_53 : decode cX6_stationOfRank 53 = .ok (.iload_n 1, 1) := by decide +kernel
theorem dX6_stationOfRank_54 : decode cX6_stationOfRank 54 = .ok (.if_icmp .ne 5, 3) := by decide +kernel
theorem dX6_stationOfRank_57 : decode cX6_stationOfRank 57 = .ok (.iload_n 2, 1) := by decide +kernel
theorem dX6_stationOfRank_58 : decode cX6_stationOfRank 58 = .ok (.ireturn, 1) := by decide +kernel
theorem dX6_stationOfRank_59 : decode cX6_stationOfRank 59 = .ok (.iinc 2 1, 3) := by decide +kernel
theorem dX6_stationOfRank_62 : decode cX6_stationOfRank 62 = .ok (.goto (-60), 3) := by decide +kernel
theorem dX6_stationOfRank_65 : decode cX6_stationOfRank 65 = .ok (.iconst (-1), 1) := by decide +kernel
theorem dX6_stationOfRank_66 : decode cX6_stationOfRank 66 = .ok (.ireturn, 1) := by decide +kernel
theorem dX6_computedMinutes_0 : decode cX6_computedMinutes 0 = .ok (.aload_n 0, 1) := by decide +kernel
theorem dX6_computedMinutes_1 : decode cX6_computedMinutes 1 = .ok (.getfield 11, 3) := by decide +kernel
theorem dX6_computedMinutes_4 : decode cX6_computedMinutes 4 = .ok (.iload_n 1, 1) := by decide +kernel
theorem dX6_computedMinutes_5 : decode cX6_computedMinutes 5 = .ok (.aaload, 1) := by decide +kernel
theorem dX6_computedMinutes_6 : decode cX6_computedMinutes 6 = .ok (.getfield 118, 3) := by decide +kernel
theorem dX6_computedMinutes_9 : decode cX6_computedMinutes 9 = .ok (.istore_n 2, 1) := by decide +kernel
theorem dX6_computedMinutes_10 : decode cX6_computedMinutes 10 = .ok (.aload_n 0, 1) := by decide +kernel
theorem dX6_computedMinutes_11 : decode cX6_computedMinutes 11 = .ok (.iload_n 2, 1) := by decide +kernel
theorem dX6_computedMinutes_12 : decode cX6_computedMinutes 12 = .ok (.invokevirtual 134, 3) := by decide +kernel
theorem dX6_computedMinutes_15 : decode cX6_computedMinutes 15 = .ok (.istore_n 3, 1) := by decide +kernel
theorem dX6_computedMinutes_16 : decode cX6_computedMinutes 16 = .ok (.iload_n 3, 1) := by decide +kernel
theorem dX6_computedMinutes_17 : decode cX6_computedMinutes 17 = .ok (.ifCond .ge 5, 3) := by decide +kernel
theorem dX6_computedMinutes_20 : decode cX6_computedMinutes 20 = .ok (.iconst (-1), 1) := by decide +kernel
theorem dX6_computedMinutes_21 : decode cX6_computedMinutes 21 = .ok (.ireturn, 1) := by decide +kernel
theorem dX6_computedMinutes_22 : decode cX6_computedMinutes 22 = .ok (.aload_n 0, 1) := by decide +kernel
theorem dX6_computedMinutes_23 : decode cX6_computedMinutes 23 = .ok (.getfield 36, 3) := by decide +kernel
theorem dX6_computedMinutes_26 : decode cX6_computedMinutes 26 = .ok (.aload_n 0, 1) := by decide +kernel
theorem dX6_computedMinutes_27 : decode cX6_computedMinutes 27 = .ok (.getfield 11, 3) := by decide +kernel
theorem dX6_computedMinutes_30 : decode cX6_computedMinutes 30 = .ok (.iload_n 3, 1) := by decide +kernel
theorem dX6_computedMinutes_31 : decode cX6_computedMinutes 31 = .ok (.aaload, 1) := by decide +kernel
theorem dX6_computedMinutes_32 : decode cX6_computedMinutes 32 = .ok (.getfield 121, 3) := by decide +kernel
theorem dX6_computedMinutes_35 : decode cX6_computedMinutes 35 = .ok (.isub, 1) := by decide +kernel
theorem dX6_computedMinutes_36 : decode cX6_computedMinutes 36 = .ok (.istore 4, 2) := by decide +kernel
theorem dX6_computedMinutes_38 : decode cX6_computedMinutes 38 = .ok (.iconst 1, 1) := by decide +kernel
theorem dX6_computedMinutes_39 : decode cX6_computedMinutes 39 = .ok (.aload_n 0, 1) := by decide +kernel
theorem dX6_computedMinutes_40 : decode cX6_computedMinutes 40 = .ok (.getfield 39, 3) := by decide +kernel
theorem dX6_computedMinutes_43 : decode cX6_computedMinutes 43 = .ok (.iload 4, 2) := by decide +kernel
theorem dX6_computedMinutes_45 : decode cX6_computedMinutes 45 = .ok (.isub, 1) := by decide +kernel
theorem dX6_computedMinutes_46 : decode cX6_computedMinutes 46 = .ok (.invokestatic 181, 3) := by decide +kernel
theorem dX6_computedMinutes_49 : decode cX6_computedMinutes 49 = .ok (.istore 5, 2) := by decide +kernel
theorem dX6_computedMinutes_51 : decode cX6_computedMinutes 51 = .ok (.iconst 0, 1) := by decide +kernel
theorem dX6_computedMinutes_52 : decode cX6_computedMinutes 52 = .ok (.istore 6, 2) := by decide +kernel
theorem dX6_computedMinutes_54 : decode cX6_computedMinutes 54 = .ok (.iload 6, 2) := by decide +kernel
theorem dX6_computedMinutes_56 : decode cX6_computedMinutes 56 = .ok (.aload_n 0, 1) := by decide +kernel
theorem dX6_computedMinutes_57 : decode cX6_computedMinutes 57 = .ok (.getfield 26, 3) := by decide +kernel
theorem dX6_computedMinutes_60 : decode cX6_computedMinutes 60 = .ok (.if_icmp .ge 48, 3) := by decide +kernel
theorem dX6_computedMinutes_63 : decode cX6_computedMinutes 63 = .ok (.aload_n 0, 1) := by decide +kernel
theorem dX6_computedMinutes_64 : decode cX6_computedMinutes 64 = .ok (.getfield 22, 3) := by decide +kernel
theorem dX6_computedMinutes_67 : decode cX6_computedMinutes 67 = .ok (.iload 6, 2) := by decide +kernel
theorem dX6_computedMinutes_69 : decode cX6_computedMinutes 69 = .ok (.iaload, 1) := by decide +kernel
theorem dX6_computedMinutes_70 : decode cX6_computedMinutes 70 = .ok (.iload_n 1, 1) := by decide +kernel
theorem dX6_computedMinutes_71 : decode cX6_computedMinutes 71 = .ok (.if_icmp .eq 37, 3) := by decide +kernel
theorem dX6_computedMinutes_74 : decode cX6_computedMinutes 74 = .ok (.aload_n 0, 1) := by decide +kernel
theorem dX6_computedMinutes_75 : decode cX6_computedMinutes 75 = .ok (.getfield 11, 3) := by decide +kernel
theorem dX6_computedMinutes_78 : decode cX6_computedMinutes 78 = .ok (.aload_n 0, 1) := by decide +kernel
theorem dX6_computedMinutes_79 : decode cX6_computedMinutes 79 = .ok (.getfield 22, 3) := by decide +kernel
theorem dX6_computedMinutes_82 : decode cX6_computedMinutes 82 = .ok (.iload 6, 2) := by decide +kernel
theorem dX6_computedMinutes_84 : decode cX6_computedMinutes 84 = .ok (.iaload, 1) := by decide +kernel
theorem dX6_computedMinutes_85 : decode cX6_computedMinutes 85 = .ok (.aaload, 1) := by decide +kernel
theorem dX6_computedMinutes_86 : decode cX6_computedMinutes 86 = .ok (.getfield 118, 3) := by decide +kernel
theorem dX6_computedMinutes_89 : decode cX6_computedMinutes 89 = .ok (.iload_n 2, 1) := by decide +kernel
theorem dX6_computedMinutes_90 : decode cX6_computedMinutes 90 = .ok (.if_icmp .ne 12, 3) := by decide +kernel
theorem dX6_computedMinutes_93 : decode cX6_computedMinutes 93 = .ok (.iload 5, 2) := by decide +kernel
theorem dX6_computedMinutes_95 : decode cX6_computedMinutes 95 = .ok (.aload_n 0, 1) := by decide +kernel
theorem dX6_computedMinutes_96 : decode cX6_computedMinutes 96 = .ok (.getfield 39, 3) := by decide +kernel
theorem dX6_computedMinutes_99 : decode cX6_computedMinutes 99 = .ok (.iadd, 1) := by decide +kernel
theorem dX6_computedMinutes_100 : decode cX6_computedMinutes 100 = .ok (.istore 5, 2) := by decide +kernel
theorem dX6_computedMinutes_102 : decode cX6_computedMinutes 102 = .ok (.iinc 6 1, 3) := by decide +kernel
theorem dX6_computedMinutes_105 : decode cX6_computedMinutes 105 = .ok (.goto (-51), 3) := by decide +kernel
theorem dX6_computedMinutes_108 : decode cX6_computedMinutes 108 = .ok (.iload 5, 2) := by decide +kernel
theorem dX6_computedMinutes_110 : decode cX6_computedMinutes 110 = .ok (.ireturn, 1) := by decide +kernel
theorem dX6_jamsOfStations_0 : decode cX6_jamsOfStations 0 = .ok (.iconst 0, 1) := by decide +kernel
theorem dX6_jamsOfStations_1 : decode cX6_jamsOfStations 1 = .ok (.istore_n 1, 1) := by decide +kernel
theorem dX6_jamsOfStations_2 : decode cX6_jamsOfStations 2 = .ok (.iconst 0, 1) := by decide +kernel
theorem dX6_jamsOfStations_3 : decode cX6_jamsOfStations 3 = .ok (.istore_n 2, 1) := by decide +kernel
theorem dX6_jamsOfStations_4 : decode cX6_jamsOfStations 4 = .ok (.iload_n 2, 1) := by decide +kernel
theorem dX6_jamsOfStations_5 : decode cX6_jamsOfStations 5 = .ok (.aload_n 0, 1) := by decide +kernel
theorem dX6_jamsOfStations_6 : decode cX6_jamsOfStations 6 = .ok (.getfield 18, 3) := by decide +kernel
theorem dX6_jamsOfStations_9 : decode cX6_jamsOfStations 9 = .ok (.if_icmp .ge 46, 3) := by decide +kernel
theorem dX6_jamsOfStations_12 : decode cX6_jamsOfStations 12 = .ok (.iconst 0, 1) := by decide +kernel
theorem dX6_jamsOfStations_13 : decode cX6_jamsOfStations 13 = .ok (.istore_n 3, 1) := by decide +kernel
theorem dX6_jamsOfStations_14 : decode cX6_jamsOfStations 14 = .ok (.iload_n 3, 1) := by decide +kernel
theorem dX6_jamsOfStations_15 : decode cX6_jamsOfStations 15 = .ok (.aload_n 0, 1) := by decide +kernel
theorem dX6_jamsOfStations_16 : decode cX6_jamsOfStations 16 = .ok (.getfield 18, 3) := by decide +kernel
theorem dX6_jamsOfStations_19 : decode cX6_jamsOfStations 19 = .ok (.if_icmp .ge 30, 3) := by decide +kernel
theorem dX6_jamsOfStations_22 : decode cX6_jamsOfStations 22 = .ok (.aload_n 0, 1) := by decide +kernel
theorem dX6_jamsOfStations_23 : decode cX6_jamsOfStations 23 = .ok (.getfield 11, 3) := by decide +kernel
theorem dX6_jamsOfStations_26 : decode cX6_jamsOfStations 26 = .ok (.iload_n 2, 1) := by decide +kernel
theorem dX6_jamsOfStations_27 : decode cX6_jamsOfStations 27 = .ok (.aaload, 1) := by decide +kernel
theorem dX6_jamsOfStations_28 : decode cX6_jamsOfStations 28 = .ok (.aload_n 0, 1) := by decide +kernel
theorem dX6_jamsOfStations_29 : decode cX6_jamsOfStations 29 = .ok (.getfield 11, 3) := by decide +kernel
theorem dX6_jamsOfStations_32 : decode cX6_jamsOfStations 32 = .ok (.iload_n 3, 1) := by decide +kernel
theorem dX6_jamsOfStations_33 : decode cX6_jamsOfStations 33 = .ok (.aaload, 1) := by decide +kernel
theorem dX6_jamsOfStations_34 : decode cX6_jamsOfStations 34 = .ok (.invokevirtual 186, 3) := by decide +kernel
theorem dX6_jamsOfStations_37 : decode cX6_jamsOfStations 37 = .ok (.ifCond .eq 6, 3) := by decide +kernel
theorem dX6_jamsOfStations_40 : decode cX6_jamsOfStations 40 = .ok (.iinc 1 1, 3) := by decide +kernel
theorem dX6_jamsOfStations_43 : decode cX6_jamsOfStations 43 = .ok (.iinc 3 1, 3) := by decide +kernel
theorem dX6_jamsOfStations_46 : decode cX6_jamsOfStations 46 = .ok (.goto (-32), 3) := by decide +kernel
theorem dX6_jamsOfStations_49 : decode cX6_jamsOfStations 49 = .ok (.iinc 2 1, 3) := by decide +kernel
theorem dX6_jamsOfStations_52 : decode cX6_jamsOfStations 52 = .ok (.goto (-48), 3) := by decide +kernel
theorem dX6_jamsOfStations_55 : decode cX6_jamsOfStations 55 = .ok (.iload_n 1, 1) := by decide +kernel
theorem dX6_jamsOfStations_56 : decode cX6_jamsOfStations 56 = .ok (.ireturn, 1) := by decide +kernel
theorem dX6_jamsBetween_0 : decode cX6_jamsBetween 0 = .ok (.aload_n 0, 1) := by decide +kernel
theorem dX6_jamsBetween_1 : decode cX6_jamsBetween 1 = .ok (.iload_n 1, 1) := by decide +kernel
theorem dX6_jamsBetween_2 : decode cX6_jamsBetween 2 = .ok (.invokevirtual 134, 3) := by decide +kernel
theorem dX6_jamsBetween_5 : decode cX6_jamsBetween 5 = .ok (.istore_n 3, 1) := by decide +kernel
theorem dX6_jamsBetween_6 : decode cX6_jamsBetween 6 = .ok (.iconst 0, 1) := by decide +kernel
theorem dX6_jamsBetween_7 : decode cX6_jamsBetween 7 = .ok (.istore 4, 2) := by decide +kernel
theorem dX6_jamsBetween_9 : decode cX6_jamsBetween 9 = .ok (.iconst 0, 1) := by decide +kernel
theorem dX6_jamsBetween_10 : decode cX6_jamsBetween 10 = .ok (.istore 5, 2) := by decide +kernel
theorem dX6_jamsBetween_12 : decode cX6_jamsBetween 12 = .ok (.iload 5, 2) := by decide +kernel
theorem dX6_jamsBetween_14 : decode cX6_jamsBetween 14 = .ok (.aload_n 0, 1) := by decide +kernel
theorem dX6_jamsBetween_15 : decode cX6_jamsBetween 15 = .ok (.getfield 18, 3) := by decide +kernel
theorem dX6_jamsBetween_18 : decode cX6_jamsBetween 18 = .ok (.if_icmp .ge 49, 3) := by decide +kernel
theorem dX6_jamsBetween_21 : decode cX6_jamsBetween 21 = .ok (.iload_n 3, 1) := by decide +kernel
theorem dX6_jamsBetween_22 : decode cX6_jamsBetween 22 = .ok (.ifCond .lt 45, 3) := by decide +kernel
theorem dX6_jamsBetween_25 : decode cX6_jamsBetween 25 = .ok (.aload_n 0, 1) := by decide +kernel
theorem dX6_jamsBetween_26 : decode cX6_jamsBetween 26 = .ok (.getfield 11, 3) := by decide +kernel
theorem dX6_jamsBetween_29 : decode cX6_jamsBetween 29 = .ok (.iload 5, 2) := by decide +kernel
theorem dX6_jamsBetween_31 : decode cX6_jamsBetween 31 = .ok (.aaload, 1) := by decide +kernel
theorem dX6_jamsBetween_32 : decode cX6_jamsBetween 32 = .ok (.getfield 118, 3) := by decide +kernel
theorem dX6_jamsBetween_35 : decode cX6_jamsBetween 35 = .ok (.iload_n 2, 1) := by decide +kernel
theorem dX6_jamsBetween_36 : decode cX6_jamsBetween 36 = .ok (.if_icmp .ne 25, 3) := by decide +kernel
theorem dX6_jamsBetween_39 : decode cX6_jamsBetween 39 = .ok (.aload_n 0, 1) := by decide +kernel
theorem dX6_jamsBetween_40 : decode cX6_jamsBetween 40 = .ok (.getfield 11, 3) := by decide +kernel
theorem dX6_jamsBetween_43 : decode cX6_jamsBetween 43 = .ok (.iload_n 3, 1) := by decide +kernel
theorem dX6_jamsBetween_44 : decode cX6_jamsBetween 44 = .ok (.aaload, 1) := by decide +kernel
theorem dX6_jamsBetween_45 : decode cX6_jamsBetween 45 = .ok (.aload_n 0, 1) := by decide +kernel
theorem dX6_jamsBetween_46 : decode cX6_jamsBetween 46 = .ok (.getfield 11, 3) := by decide +kernel
theorem dX6_jamsBetween_49 : decode cX6_jamsBetween 49 = .ok (.iload 5, 2) := by decide +kernel
theorem dX6_jamsBetween_51 : decode cX6_jamsBetween 51 = .ok (.aaload, 1) := by decide +kernel
theorem dX6_jamsBetween_52 : decode cX6_jamsBetween 52 = .ok (.invokevirtual 186, 3) := by decide +kernel
theorem dX6_jamsBetween_55 : decode cX6_jamsBetween 55 = .ok (.ifCond .eq 6, 3) := by decide +kernel
theorem dX6_jamsBetween_58 : decode cX6_jamsBetween 58 = .ok (.iinc 4 1, 3) := by decide +kernel
theorem dX6_jamsBetween_61 : decode cX6_jamsBetween 61 = .ok (.iinc 5 1, 3) := by decide +kernel
theorem dX6_jamsBetween_64 : decode cX6_jamsBetween 64 = .ok (.goto (-52), 3) := by decide +kernel
theorem dX6_jamsBetween_67 : decode cX6_jamsBetween 67 = .ok (.iload 4, 2) := by decide +kernel
theorem dX6_jamsBetween_69 : decode cX6_jamsBetween 69 = .ok (.ireturn, 1) := by decide +kernel
theorem dX6_jamsOfChannels_0 : decode cX6_jamsOfChannels 0 = .ok (.iconst 0, 1) := by decide +kernel
theorem dX6_jamsOfChannels_1 : decode cX6_jamsOfChannels 1 = .ok (.istore_n 1, 1) := by decide +kernel
theorem dX6_jamsOfChannels_2 : decode cX6_jamsOfChannels 2 = .ok (.iconst 0, 1) := by decide +kernel
theorem dX6_jamsOfChannels_3 : decode cX6_jamsOfChannels 3 = .ok (.istore_n 2, 1) := by decide +kernel
theorem dX6_jamsOfChannels_4 : decode cX6_jamsOfChannels 4 = .ok (.iload_n 2, 1) := by decide +kernel
theorem dX6_jamsOfChannels_5 : decode cX6_jamsOfChannels 5 = .ok (.iconst 1, 1) := by decide +kernel
theorem dX6_jamsOfChannels_6 : decode cX6_jamsOfChannels 6 = .ok (.iadd, 1) := by decide +kernel
theorem dX6_jamsOfChannels_7 : decode cX6_jamsOfChannels 7 = .ok (.bipush 10, 2) := by decide +kernel
theorem dX6_jamsOfChannels_9 : decode cX6_jamsOfChannels 9 = .ok (.if_icmp .ge 31, 3) := by decide +kernel
theorem dX6_jamsOfChannels_12 : decode cX6_jamsOfChannels 12 = .ok (.iload_n 1, 1) := by decide +kernel
theorem dX6_jamsOfChannels_13 : decode cX6_jamsOfChannels 13 = .ok (.aload_n 0, 1) := by decide +kernel
theorem dX6_jamsOfChannels_14 : decode cX6_jamsOfChannels 14 = .ok (.iload_n 2, 1) := by decide +kernel
theorem dX6_jamsOfChannels_15 : decode cX6_jamsOfChannels 15 = .ok (.iload_n 2, 1) := by decide +kernel
theorem dX6_jamsOfChannels_16 : decode cX6_jamsOfChannels 16 = .ok (.iconst 1, 1) := by decide +kernel
theorem dX6_jamsOfChannels_17 : decode cX6_jamsOfChannels 17 = .ok (.iadd, 1) := by decide +kernel
theorem dX6_jamsOfChannels_18 : decode cX6_jamsOfChannels 18 = .ok (.invokevirtual 189, 3) := by decide +kernel
theorem dX6_jamsOfChannels_21 : decode cX6_jamsOfChannels 21 = .ok (.iadd, 1) := by decide +kernel
theorem dX6_jamsOfChannels_22 : decode cX6_jamsOfChannels 22 = .ok (.istore_n 1, 1) := by decide +kernel
theorem dX6_jamsOfChannels_23 : decode cX6_jamsOfChannels 23 = .ok (.iload_n 1, 1) := by decide +kernel
theorem dX6_jamsOfChannels_24 : decode cX6_jamsOfChannels 24 = .ok (.aload_n 0, 1) := by decide +kernel
theorem dX6_jamsOfChannels_25 : decode cX6_jamsOfChannels 25 = .ok (.iload_n 2, 1) := by decide +kernel
theorem dX6_jamsOfChannels_26 : decode cX6_jamsOfChannels 26 = .ok (.iconst 1, 1) := by decide +kernel
theorem dX6_jamsOfChannels_27 : decode cX6_jamsOfChannels 27 = .ok (.iadd, 1) := by decide +kernel
theorem dX6_jamsOfChannels_28 : decode cX6_jamsOfChannels 28 = .ok (.iload_n 2, 1) := by decide +kernel
theorem dX6_jamsOfChannels_29 : decode cX6_jamsOfChannels 29 = .ok (.invokevirtual 189, 3) := by decide +kernel
theorem dX6_jamsOfChannels_32 : decode cX6_jamsOfChannels 32 = .ok (.iadd, 1) := by decide +kernel
theorem dX6_jamsOfChannels_33 : decode cX6_jamsOfChannels 33 = .ok (.istore_n 1, 1) := by decide +kernel
theorem dX6_jamsOfChannels_34 : decode cX6_jamsOfChannels 34 = .ok (.iinc 2 1, 3) := by decide +kernel
theorem dX6_jamsOfChannels_37 : decode cX6_jamsOfChannels 37 = .ok (.goto (-33), 3) := by decide +kernel
theorem dX6_jamsOfChannels_40 : decode cX6_jamsOfChannels 40 = .ok (.iload_n 1, 1) := by decide +kernel
theorem dX6_jamsOfChannels_41 : decode cX6_jamsOfChannels 41 = .ok (.ireturn, 1) := by decide +kernel
theorem dX6_sumOfPowers_0 : decode cX6_sumOfPowers 0 = .ok (.iconst 0, 1) := by decide +kernel
theorem dX6_sumOfPowers_1 : decode cX6_sumOfPowers 1 = .ok (.istore_n 1, 1) := by decide +kernel
theorem dX6_sumOfPowers_2 : decode cX6_sumOfPowers 2 = .ok (.iconst 0, 1) := by decide +kernel
theorem dX6_sumOfPowers_3 : decode cX6_sumOfPowers 3 = .ok (.istore_n 2, 1) := by decide +kernel
theorem dX6_sumOfPowers_4 : decode cX6_sumOfPowers 4 = .ok (.iload_n 2, 1) := by decide +kernel
theorem dX6_sumOfPowers_5 : decode cX6_sumOfPowers 5 = .ok (.aload_n 0, 1) := by decide +kernel
theorem dX6_sumOfPowers_6 : decode cX6_sumOfPowers 6 = .ok (.getfield 18, 3) := by decide +kernel
theorem dX6_sumOfPowers_9 : decode cX6_sumOfPowers 9 = .ok (.if_icmp .ge 21, 3) := by decide +kernel
theorem dX6_sumOfPowers_12 : decode cX6_sumOfPowers 12 = .ok (.iload_n 1, 1) := by decide +kernel
theorem dX6_sumOfPowers_13 : decode cX6_sumOfPowers 13 = .ok (.aload_n 0, 1) := by decide +kernel
theorem dX6_sumOfPowers_14 : decode cX6_sumOfPowers 14 = .ok (.getfield 11, 3) := by decide +kernel
theorem dX6_sumOfPowers_17 : decode cX6_sumOfPowers 17 = .ok (.iload_n 2, 1) := by decide +kernel
theorem dX6_sumOfPowers_18 : decode cX6_sumOfPowers 18 = .ok (.aaload, 1) := by decide +kernel
theorem dX6_sumOfPowers_19 : decode cX6_sumOfPowers 19 = .ok (.getfield 115, 3) := by decide +kernel
theorem dX6_sumOfPowers_22 : decode cX6_sumOfPowers 22 = .ok (.iadd, 1) := by decide +kernel
theorem dX6_sumOfPowers_23 : decode cX6_sumOfPowers 23 = .ok (.istore_n 1, 1) := by decide +kernel
theorem dX6_sumOfPowers_24 : decode cX6_sumOfPowers 24 = .ok (.iinc 2 1, 3) := by decide +kernel
theorem dX6_sumOfPowers_27 : decode cX6_sumOfPowers 27 = .ok (.goto (-23), 3) := by decide +kernel
theorem dX6_sumOfPowers_30 : decode cX6_sumOfPowers 30 = .ok (.iload_n 1, 1) := by decide +kernel
theorem dX6_sumOfPowers_31 : decode cX6_sumOfPowers 31 = .ok (.ireturn, 1) := by decide +kernel
theorem dX6_sumOfSpoken_0 : decode cX6_sumOfSpoken 0 = .ok (.iconst 0, 1) := by decide +kernel
theorem dX6_sumOfSpoken_1 : decode cX6_sumOfSpoken 1 = .ok (.istore_n 1, 1) := by decide +kernel
theorem dX6_sumOfSpoken_2 : decode cX6_sumOfSpoken 2 = .ok (.iconst 0, 1) := by decide +kernel
theorem dX6_sumOfSpoken_3 : decode cX6_sumOfSpoken 3 = .ok (.istore_n 2, 1) := by decide +kernel
theorem dX6_sumOfSpoken_4 : decode cX6_sumOfSpoken 4 = .ok (.iload_n 2, 1) := by decide +kernel
theorem dX6_sumOfSpoken_5 : decode cX6_sumOfSpoken 5 = .ok (.aload_n 0, 1) := by decide +kernel
theorem dX6_sumOfSpoken_6 : decode cX6_sumOfSpoken 6 = .ok (.getfield 18, 3) := by decide +kernel
theorem dX6_sumOfSpoken_9 : decode cX6_sumOfSpoken 9 = .ok (.if_icmp .ge 21, 3) := by decide +kernel
theorem dX6_sumOfSpoken_12 : decode cX6_sumOfSpoken 12 = .ok (.iload_n 1, 1) := by decide +kernel
theorem dX6_sumOfSpoken_13 : decode cX6_sumOfSpoken 13 = .ok (.aload_n 0, 1) := by decide +kernel
theorem dX6_sumOfSpoken_14 : decode cX6_sumOfSpoken 14 = .ok (.getfield 11, 3) := by decide +kernel
theorem dX6_sumOfSpoken_17 : decode cX6_sumOfSpoken 17 = .ok (.iload_n 2, 1) := by decide +kernel
theorem dX6_sumOfSpoken_18 : decode cX6_sumOfSpoken 18 = .ok (.aaload, 1) := by decide +kernel
theorem dX6_sumOfSpoken_19 : decode cX6_sumOfSpoken 19 = .ok (.getfield 124, 3) := by decide +kernel
theorem dX6_sumOfSpoken_22 : decode cX6_sumOfSpoken 22 = .ok (.iadd, 1) := by decide +kernel
theorem dX6_sumOfSpoken_23 : decode cX6_sumOfSpoken 23 = .ok (.istore_n 1, 1) := by decide +kernel
theorem dX6_sumOfSpoken_24 : decode cX6_sumOfSpoken 24 = .ok (.iinc 2 1, 3) := by decide +kernel
theorem dX6_sumOfSpoken_27 : decode cX6_sumOfSpoken 27 = .ok (.goto (-23), 3) := by decide +kernel
theorem dX6_sumOfSpoken_30 : decode cX6_sumOfSpoken 30 = .ok (.iload_n 1, 1) := by decide +kernel
theorem dX6_sumOfSpoken_31 : decode cX6_sumOfSpoken 31 = .ok (.ireturn, 1) := by decide +kernel
theorem dX6_countOn_0 : decode cX6_countOn 0 = .ok (.iconst 0, 1) := by decide +kernel
theorem dX6_countOn_1 : decode cX6_countOn 1 = .ok (.istore_n 3, 1) := by decide +kernel
theorem dX6_countOn_2 : decode cX6_countOn 2 = .ok (.iconst 0, 1) := by decide +kernel
theorem dX6_countOn_3 : decode cX6_countOn 3 = .ok (.istore 4, 2) := by decide +kernel
theorem dX6_countOn_5 : decode cX6_countOn 5 = .ok (.iload 4, 2) := by decide +kernel
theorem dX6_countOn_7 : decode cX6_countOn 7 = .ok (.aload_n 0, 1) := by decide +kernel
theorem dX6_countOn_8 : decode cX6_countOn 8 = .ok (.getfield 18, 3) := by decide +kernel
theorem dX6_countOn_11 : decode cX6_countOn 11 = .ok (.if_icmp .ge 40, 3) := by decide +kernel
theorem dX6_countOn_14 : decode cX6_countOn 14 = .ok (.aload_n 0, 1) := by decide +kernel
theorem dX6_countOn_15 : decode cX6_countOn 15 = .ok (.getfield 11, 3) := by decide +kernel
theorem dX6_countOn_18 : decode cX6_countOn 18 = .ok (.iload 4, 2) := by decide +kernel
theorem dX6_countOn_20 : decode cX6_countOn 20 = .ok (.aaload, 1) := by decide +kernel
theorem dX6_countOn_21 : decode cX6_countOn 21 = .ok (.getfield 118, 3) := by decide +kernel
theorem dX6_countOn_24 : decode cX6_countOn 24 = .ok (.iload_n 1, 1) := by decide +kernel
theorem dX6_countOn_25 : decode cX6_countOn 25 = .ok (.if_icmp .ne 20, 3) := by decide +kernel
theorem dX6_countOn_28 : decode cX6_countOn 28 = .ok (.aload_n 0, 1) := by decide +kernel
theorem dX6_countOn_29 : decode cX6_countOn 29 = .ok (.getfield 11, 3) := by decide +kernel
theorem dX6_countOn_32 : decode cX6_countOn 32 = .ok (.iload 4, 2) := by decide +kernel
theorem dX6_countOn_34 : decode cX6_countOn 34 = .ok (.aaload, 1) := by decide +kernel
theorem dX6_countOn_35 : decode cX6_countOn 35 = .ok (.getfield 99, 3) := by decide +kernel
theorem dX6_countOn_38 : decode cX6_countOn 38 = .ok (.aload_n 2, 1) := by decide +kernel
theorem dX6_countOn_39 : decode cX6_countOn 39 = .ok (.if_acmp .ne 6, 3) := by decide +kernel
theorem dX6_countOn_42 : decode cX6_countOn 42 = .ok (.iinc 3 1, 3) := by decide +kernel
theorem dX6_countOn_45 : decode cX6_countOn 45 = .ok (.iinc 4 1, 3) := by decide +kernel
theorem dX6_countOn_48 : decode cX6_countOn 48 = .ok (.goto (-43), 3) := by decide +kernel
theorem dX6_countOn_51 : decode cX6_countOn 51 = .ok (.iload_n 3, 1) := by decide +kernel
theorem dX6_countOn_52 : decode cX6_countOn 52 = .ok (.ireturn, 1) := by decide +kernel
theorem dX6_channelsAreOrdered_0 : decode cX6_channelsAreOrdered 0 = .ok (.iconst 0, 1) := by decide +kernel
theorem dX6_channelsAreOrdered_1 : decode cX6_channelsAreOrdered 1 = .ok (.istore_n 1, 1) := by decide +kernel
theorem dX6_channelsAreOrdered_2 : decode cX6_channelsAreOrdered 2 = .ok (.iload_n 1, 1) := by decide +kernel
theorem dX6_channelsAreOrdered_3 : decode cX6_channelsAreOrdered 3 = .ok (.bipush 10, 2) := by decide +kernel
theorem dX6_channelsAreOrdered_5 : decode cX6_channelsAreOrdered 5 = .ok (.if_icmp .ge 40, 3) := by decide +kernel
theorem dX6_channelsAreOrdered_8 : decode cX6_channelsAreOrdered 8 = .ok (.aload_n 0, 1) := by decide +kernel
theorem dX6_channelsAreOrdered_9 : decode cX6_channelsAreOrdered 9 = .ok (.iload_n 1, 1) := by decide +kernel
theorem dX6_channelsAreOrdered_10 : decode cX6_channelsAreOrdered 10 = .ok (.getstatic 148, 3) := by decide +kernel
theorem dX6_channelsAreOrdered_13 : decode cX6_channelsAreOrdered 13 = .ok (.invokevirtual 192, 3) := by decide +kernel
theorem dX6_channelsAreOrdered_16 : decode cX6_channelsAreOrdered 16 = .ok (.istore_n 2, 1) := by decide +kernel
theorem dX6_channelsAreOrdered_17 : decode cX6_channelsAreOrdered 17 = .ok (.iload_n 2, 1) := by decide +kernel
theorem dX6_channelsAreOrdered_18 : decode cX6_channelsAreOrdered 18 = .ok (.iconst 1, 1) := by decide +kernel
theorem dX6_channelsAreOrdered_19 : decode cX6_channelsAreOrdered 19 = .ok (.if_icmp .gt 18, 3) := by decide +kernel
theorem dX6_channelsAreOrdered_22 : decode cX6_channelsAreOrdered 22 = .ok (.iload_n 2, 1) := by decide +kernel
theorem dX6_channelsAreOrdered_23 : decode cX6_channelsAreOrdered 23 = .ok (.ifCond .ne 16, 3) := by decide +kernel
theorem dX6_channelsAreOrdered_26 : decode cX6_channelsAreOrdered 26 = .ok (.aload_n 0, 1) := by decide +kernel
theorem dX6_channelsAreOrdered_27 : decode cX6_channelsAreOrdered 27 = .ok (.iload_n 1, 1) := by decide +kernel
theorem dX6_channelsAreOrdered_28 : decode cX6_channelsAreOrdered 28 = .ok (.getstatic 142, 3) := by decide +kernel
theorem dX6_channelsAreOrdered_31 : decode cX6_channelsAreOrdered 31 = .ok (.invokevirtual 192, 3) := by decide +kernel
theorem dX6_channelsAreOrdered_34 : decode cX6_channelsAreOrdered 34 = .ok (.ifCond .le 5, 3) := by decide +kernel
theorem dX6_channelsAreOrdered_37 : decode cX6_channelsAreOrdered 37 = .ok (.iconst 0, 1) := by decide +kernel
theorem dX6_channelsAreOrdered_38 : decode cX6_channelsAreOrdered 38 = .ok (.ireturn, 1) := by decide +kernel
theorem dX6_channelsAreOrdered_39 : decode cX6_channelsAreOrdered 39 = .ok (.iinc 1 1, 3) := by decide +kernel
theorem dX6_channelsAreOrdered_42 : decode cX6_channelsAreOrdered 42 = .ok (.goto (-40), 3) := by decide +kernel
theorem dX6_channelsAreOrdered_45 : decode cX6_channelsAreOrdered 45 = .ok (.iconst 1, 1) := by decide +kernel
theorem dX6_channelsAreOrdered_46 : decode cX6_channelsAreOrdered 46 = .ok (.ireturn, 1) := by decide +kernel
theorem dX6_faultOfAdding_0 : decode cX6_faultOfAdding 0 = .ok (.iload_n 1, 1) := by decide +kernel
theorem dX6_faultOfAdding_1 : decode cX6_faultOfAdding 1 = .ok (.invokestatic 49, 3) := by decide +kernel
theorem dX6_faultOfAdding_4 : decode cX6_faultOfAdding 4 = .ok (.ifCond .eq 38, 3) := by decide +kernel
theorem dX6_faultOfAdding_7 : decode cX6_faultOfAdding 7 = .ok (.iload_n 2, 1) := by decide +kernel
theorem dX6_faultOfAdding_8 : decode cX6_faultOfAdding 8 = .ok (.ifCond .lt 34, 3) := by decide +kernel
theorem dX6_faultOfAdding_11 : decode cX6_faultOfAdding 11 = .ok (.iload_n 2, 1) := by decide +kernel
theorem dX6_faultOfAdding_12 : decode cX6_faultOfAdding 12 = .ok (.bipush 9, 2) := by decide +kernel
theorem dX6_faultOfAdding_14 : decode cX6_faultOfAdding 14 = .ok (.if_icmp .gt 28, 3) := by decide +kernel
theorem dX6_faultOfAdding_17 : decode cX6_faultOfAdding 17 = .ok (.iload_n 3, 1) := by decide +kernel
theorem dX6_faultOfAdding_18 : decode cX6_faultOfAdding 18 = .ok (.iload 4, 2) := by decide +kernel
theorem dX6_faultOfAdding_20 : decode cX6_faultOfAdding 20 = .ok (.invokestatic 53, 3) := by decide +kernel
theorem dX6_faultOfAdding_23 : decode cX6_faultOfAdding 23 = .ok (.ifCond .eq 19, 3) := by decide +kernel
theorem dX6_faultOfAdding_26 : decode cX6_faultOfAdding 26 = .ok (.iload 5, 2) := by decide +kernel
theorem dX6_faultOfAdding_28 : decode cX6_faultOfAdding 28 = .ok (.invokestatic 57, 3) := by decide +kernel
theorem dX6_faultOfAdding_31 : decode cX6_faultOfAdding 31 = .ok (.ifCond .eq 11, 3) := by decide +kernel
theorem dX6_faultOfAdding_34 : decode cX6_faultOfAdding 34 = .ok (.iload 6, 2) := by decide +kernel
theorem dX6_faultOfAdding_36 : decode cX6_faultOfAdding 36 = .ok (.invokestatic 61, 3) := by decide +kernel
theorem dX6_faultOfAdding_39 : decode cX6_faultOfAdding 39 = .ok (.ifCond .ne 7, 3) := by decide +kernel
theorem dX6_faultOfAdding_42 : decode cX6_faultOfAdding 42 = .ok (.getstatic 64, 3) := by decide +kernel
theorem dX6_faultOfAdding_45 : decode cX6_faultOfAdding 45 = .ok (.areturn, 1) := by decide +kernel
theorem dX6_faultOfAdding_46 : decode cX6_faultOfAdding 46 = .ok (.aload_n 0, 1) := by decide +kernel
theorem dX6_faultOfAdding_47 : decode cX6_faultOfAdding 47 = .ok (.iload_n 1, 1) := by decide +kernel
theorem dX6_faultOfAdding_48 : decode cX6_faultOfAdding 48 = .ok (.iload_n 2, 1) := by decide +kernel
theorem dX6_faultOfAdding_49 : decode cX6_faultOfAdding 49 = .ok (.invokevirtual 70, 3) := by decide +kernel
theorem dX6_faultOfAdding_52 : decode cX6_faultOfAdding 52 = .ok (.ifCond .lt 7, 3) := by decide +kernel
theorem dX6_faultOfAdding_55 : decode cX6_faultOfAdding 55 = .ok (.getstatic 74, 3) := by decide +kernel
theorem dX6_faultOfAdding_58 : decode cX6_faultOfAdding 58 = .ok (.areturn, 1) := by decide +kernel
theorem dX6_faultOfAdding_59 : decode cX6_faultOfAdding 59 = .ok (.aload_n 0, 1) := by decide +kernel
theorem dX6_faultOfAdding_60 : decode cX6_faultOfAdding 60 = .ok (.getfield 18, 3) := by decide +kernel
theorem dX6_faultOfAdding_63 : decode cX6_faultOfAdding 63 = .ok (.bipush 8, 2) := by decide +kernel
theorem dX6_faultOfAdding_65 : decode cX6_faultOfAdding 65 = .ok (.if_icmp .lt 9, 3) := by decide +kernel
theorem dX6_faultOfAdding_68 : decode cX6_faultOfAdding 68 = .ok (.getstatic 77, 3) := by decide +kernel
theorem dX6_faultOfAdding_71 : decode cX6_faultOfAdding 71 = .ok (.goto 6, 3) := by decide +kernel
theorem dX6_faultOfAdding_74 : decode cX6_faultOfAdding 74 = .ok (.getstatic 80, 3) := by decide +kernel
theorem dX6_faultOfAdding_77 : decode cX6_faultOfAdding 77 = .ok (.areturn, 1) := by decide +kernel
theorem dX6_faultOfMoving_0 : decode cX6_faultOfMoving 0 = .ok (.aload_n 0, 1) := by decide +kernel
theorem dX6_faultOfMoving_1 : decode cX6_faultOfMoving 1 = .ok (.iload_n 1, 1) := by decide +kernel
theorem dX6_faultOfMoving_2 : decode cX6_faultOfMoving 2 = .ok (.invokevirtual 83, 3) := by decide +kernel
theorem dX6_faultOfMoving_5 : decode cX6_faultOfMoving 5 = .ok (.ifCond .ne 7, 3) := by decide +kernel
theorem dX6_faultOfMoving_8 : decode cX6_faultOfMoving 8 = .ok (.getstatic 86, 3) := by decide +kernel
theorem dX6_faultOfMoving_11 : decode cX6_faultOfMoving 11 = .ok (.areturn, 1) := by decide +kernel
theorem dX6_faultOfMoving_12 : decode cX6_faultOfMoving 12 = .ok (.iload_n 2, 1) := by decide +kernel
theorem dX6_faultOfMoving_13 : decode cX6_faultOfMoving 13 = .ok (.iload_n 3, 1) := by decide +kernel
theorem dX6_faultOfMoving_14 : decode cX6_faultOfMoving 14 = .ok (.invokestatic 53, 3) := by decide +kernel
theorem dX6_faultOfMoving_17 : decode cX6_faultOfMoving 17 = .ok (.ifCond .eq 9, 3) := by decide +kernel
theorem dX6_faultOfMoving_20 : decode cX6_faultOfMoving 20 = .ok (.getstatic 80, 3) := by decide +kernel
theorem dX6_faultOfMoving_23 : decode cX6_faultOfMoving 23 = .ok (.goto 6, 3) := by decide +kernel
theorem dX6_faultOfMoving_26 : decode cX6_faultOfMoving 26 = .ok (.getstatic 64, 3) := by decide +kernel
theorem dX6_faultOfMoving_29 : decode cX6_faultOfMoving 29 = .ok (.areturn, 1) := by decide +kernel
theorem dX6_faultOfPower_0 : decode cX6_faultOfPower 0 = .ok (.aload_n 0, 1) := by decide +kernel
theorem dX6_faultOfPower_1 : decode cX6_faultOfPower 1 = .ok (.iload_n 1, 1) := by decide +kernel
theorem dX6_faultOfPower_2 : decode cX6_faultOfPower 2 = .ok (.invokevirtual 83, 3) := by decide +kernel
theorem dX6_faultOfPower_5 : decode cX6_faultOfPower 5 = .ok (.ifCond .ne 7, 3) := by decide +kernel
theorem dX6_faultOfPower_8 : decode cX6_faultOfPower 8 = .ok (.getstatic 86, 3) := by decide +kernel
theorem dX6_faultOfPower_11 : decode cX6_faultOfPower 11 = .ok (.areturn, 1) := by decide +kernel
theorem dX6_faultOfPower_12 : decode cX6_faultOfPower 12 = .ok (.iload_n 2, 1) := by decide +kernel
theorem dX6_faultOfPower_13 : decode cX6_faultOfPower 13 = .ok (.invokestatic 57, 3) := by decide +kernel
theorem dX6_faultOfPower_16 : decode cX6_faultOfPower 16 = .ok (.ifCond .eq 9, 3) := by decide +kernel
theorem dX6_faultOfPower_19 : decode cX6_faultOfPower 19 = .ok (.getstatic 80, 3) := by decide +kernel
theorem dX6_faultOfPower_22 : decode cX6_faultOfPower 22 = .ok (.goto 6, 3) := by decide +kernel
theorem dX6_faultOfPower_25 : decode cX6_faultOfPower 25 = .ok (.getstatic 64, 3) := by decide +kernel
theorem dX6_faultOfPower_28 : decode cX6_faultOfPower 28 = .ok (.areturn, 1) := by decide +kernel
theorem dX6_faultOfMode_0 : decode cX6_faultOfMode 0 = .ok (.aload_n 0, 1) := by decide +kernel
theorem dX6_faultOfMode_1 : decode cX6_faultOfMode 1 = .ok (.iload_n 1, 1) := by decide +kernel
theorem dX6_faultOfMode_2 : decode cX6_faultOfMode 2 = .ok (.invokevirtual 83, 3) := by decide +kernel
theorem dX6_faultOfMode_5 : decode cX6_faultOfMode 5 = .ok (.ifCond .ne 7, 3) := by decide +kernel
theorem dX6_faultOfMode_8 : decode cX6_faultOfMode 8 = .ok (.getstatic 86, 3) := by decide +kernel
theorem dX6_faultOfMode_11 : decode cX6_faultOfMode 11 = .ok (.areturn, 1) := by decide +kernel
theorem dX6_faultOfMode_12 : decode cX6_faultOfMode 12 = .ok (.aload_n 0, 1) := by decide +kernel
theorem dX6_faultOfMode_13 : decode cX6_faultOfMode 13 = .ok (.getfield 11, 3) := by decide +kernel
theorem dX6_faultOfMode_16 : decode cX6_faultOfMode 16 = .ok (.iload_n 1, 1) := by decide +kernel
theorem dX6_faultOfMode_17 : decode cX6_faultOfMode 17 = .ok (.aaload, 1) := by decide +kernel
theorem dX6_faultOfMode_18 : decode cX6_faultOfMode 18 = .ok (.getfield 99, 3) := by decide +kernel
theorem dX6_faultOfMode_21 : decode cX6_faultOfMode 21 = .ok (.aload_n 2, 1) := by decide +kernel
theorem dX6_faultOfMode_22 : decode cX6_faultOfMode 22 = .ok (.if_acmp .ne 9, 3) := by decide +kernel
theorem dX6_faultOfMode_25 : decode cX6_faultOfMode 25 = .ok (.getstatic 80, 3) := by decide +kernel
theorem dX6_faultOfMode_28 : decode cX6_faultOfMode 28 = .ok (.goto 6, 3) := by decide +kernel
theorem dX6_faultOfMode_31 : decode cX6_faultOfMode 31 = .ok (.getstatic 77, 3) := by decide +kernel
theorem dX6_faultOfMode_34 : decode cX6_faultOfMode 34 = .ok (.areturn, 1) := by decide +kernel
theorem dX6_faultOfTuning_0 : decode cX6_faultOfTuning 0 = .ok (.aload_n 0, 1) := by decide +kernel
theorem dX6_faultOfTuning_1 : decode cX6_faultOfTuning 1 = .ok (.iload_n 1, 1) := by decide +kernel
theorem dX6_faultOfTuning_2 : decode cX6_faultOfTuning 2 = .ok (.invokevirtual 83, 3) := by decide +kernel
theorem dX6_faultOfTuning_5 : decode cX6_faultOfTuning 5 = .ok (.ifCond .ne 7, 3) := by decide +kernel
theorem dX6_faultOfTuning_8 : decode cX6_faultOfTuning 8 = .ok (.getstatic 86, 3) := by decide +kernel
theorem dX6_faultOfTuning_11 : decode cX6_faultOfTuning 11 = .ok (.areturn, 1) := by decide +kernel
theorem dX6_faultOfTuning_12 : decode cX6_faultOfTuning 12 = .ok (.iload_n 2, 1) := by decide +kernel
theorem dX6_faultOfTuning_13 : decode cX6_faultOfTuning 13 = .ok (.invokestatic 61, 3) := by decide +kernel
theorem dX6_faultOfTuning_16 : decode cX6_faultOfTuning 16 = .ok (.ifCond .ne 7, 3) := by decide +kernel
theorem dX6_faultOfTuning_19 : decode cX6_faultOfTuning 19 = .ok (.getstatic 64, 3) := by decide +kernel
theorem dX6_faultOfTuning_22 : decode cX6_faultOfTuning 22 = .ok (.areturn, 1) := by decide +kernel
theorem dX6_faultOfTuning_23 : decode cX6_faultOfTuning 23 = .ok (.aload_n 0, 1) := by decide +kernel
theorem dX6_faultOfTuning_24 : decode cX6_faultOfTuning 24 = .ok (.iload_n 1, 1) := by decide +kernel
theorem dX6_faultOfTuning_25 : decode cX6_faultOfTuning 25 = .ok (.getstatic 89, 3) := by decide +kernel
theorem dX6_faultOfTuning_28 : decode cX6_faultOfTuning 28 = .ok (.invokevirtual 95, 3) := by decide +kernel
theorem dX6_faultOfTuning_31 : decode cX6_faultOfTuning 31 = .ok (.areturn, 1) := by decide +kernel
theorem dX6_add_0 : decode cX6_add 0 = .ok (.aload_n 0, 1) := by decide +kernel
theorem dX6_add_1 : decode cX6_add 1 = .ok (.getfield 18, 3) := by decide +kernel
theorem dX6_add_4 : decode cX6_add 4 = .ok (.istore 7, 2) := by decide +kernel
theorem dX6_add_6 : decode cX6_add 6 = .ok (.aload_n 0, 1) := by decide +kernel
theorem dX6_add_7 : decode cX6_add 7 = .ok (.getfield 11, 3) := by decide +kernel
theorem dX6_add_10 : decode cX6_add 10 = .ok (.iload 7, 2) := by decide +kernel
theorem dX6_add_12 : decode cX6_add 12 = .ok (.aaload, 1) := by decide +kernel
theorem dX6_add_13 : decode cX6_add 13 = .ok (.astore 8, 2) := by decide +kernel
theorem dX6_add_15 : decode cX6_add 15 = .ok (.aload 8, 2) := by decide +kernel
theorem dX6_add_17 : decode cX6_add 17 = .ok (.iload_n 1, 1) := by decide +kernel
theorem dX6_add_18 : decode cX6_add 18 = .ok (.putfield 102, 3) := by decide +kernel
theorem dX6_add_21 : decode cX6_add 21 = .ok (.aload 8, 2) := by decide +kernel
theorem dX6_add_23 : decode cX6_add 23 = .ok (.iload_n 2, 1) := by decide +kernel
theorem dX6_add_24 : decode cX6_add 24 = .ok (.putfield 106, 3) := by decide +kernel
theorem dX6_add_27 : decode cX6_add 27 = .ok (.aload 8, 2) := by decide +kernel
theorem dX6_add_29 : decode cX6_add 29 = .ok (.iload_n 3, 1) := by decide +kernel
theorem dX6_add_30 : decode cX6_add 30 = .ok (.putfield 109, 3) := by decide +kernel
theorem dX6_add_33 : decode cX6_add 33 = .ok (.aload 8, 2) := by decide +kernel
theorem dX6_add_35 : decode cX6_add 35 = .ok (.iload 4, 2) := by decide +kernel
theorem dX6_add_37 : decode cX6_add 37 = .ok (.putfield 112, 3) := by decide +kernel
theorem dX6_add_40 : decode cX6_add 40 = .ok (.aload 8, 2) := by decide +kernel
theorem dX6_add_42 : decode cX6_add 42 = .ok (.iload 5, 2) := by decide +kernel
theorem dX6_add_44 : decode cX6_add 44 = .ok (.putfield 115, 3) := by decide +kernel
theorem dX6_add_47 : decode cX6_add 47 = .ok (.aload 8, 2) := by decide +kernel
theorem dX6_add_49 : decode cX6_add 49 = .ok (.iload 6, 2) := by decide +kernel
theorem dX6_add_51 : decode cX6_add 51 = .ok (.putfield 118, 3) := by decide +kernel
theorem dX6_add_54 : decode cX6_add 54 = .ok (.aload 8, 2) := by decide +kernel
theorem dX6_add_56 : decode cX6_add 56 = .ok (.getstatic 89, 3) := by decide +kernel
theorem dX6_add_59 : decode cX6_add 59 = .ok (.putfield 99, 3) := by decide +kernel
theorem dX6_add_62 : decode cX6_add 62 = .ok (.aload 8, 2) := by decide +kernel
theorem dX6_add_64 : decode cX6_add 64 = .ok (.iconst 0, 1) := by decide +kernel
theorem dX6_add_65 : decode cX6_add 65 = .ok (.putfield 121, 3) := by decide +kernel
theorem dX6_add_68 : decode cX6_add 68 = .ok (.aload 8, 2) := by decide +kernel
theorem dX6_add_70 : decode cX6_add 70 = .ok (.iconst 0, 1) := by decide +kernel
theorem dX6_add_71 : decode cX6_add 71 = .ok (.putfield 124, 3) := by decide +kernel
theorem dX6_add_74 : decode cX6_add 74 = .ok (.aload 8, 2) := by decide +kernel
theorem dX6_add_76 : decode cX6_add 76 = .ok (.iconst 0, 1) := by decide +kernel
theorem dX6_add_77 : decode cX6_add 77 = .ok (.putfield 127, 3) := by decide +kernel
theorem dX6_add_80 : decode cX6_add 80 = .ok (.aload_n 0, 1) := by decide +kernel
theorem dX6_add_81 : decode cX6_add 81 = .ok (.dup, 1) := by decide +kernel
theorem dX6_add_82 : decode cX6_add 82 = .ok (.getfield 18, 3) := by decide +kernel
theorem dX6_add_85 : decode cX6_add 85 = .ok (.iconst 1, 1) := by decide +kernel
theorem dX6_add_86 : decode cX6_add 86 = .ok (.iadd, 1) := by decide +kernel
theorem dX6_add_87 : decode cX6_add 87 = .ok (.putfield 18, 3) := by decide +kernel
theorem dX6_add_90 : decode cX6_add 90 = .ok (.iload 7, 2) := by decide +kernel
theorem dX6_add_92 : decode cX6_add 92 = .ok (.ireturn, 1) := by decide +kernel
theorem dX6_moveTo_0 : decode cX6_moveTo 0 = .ok (.aload_n 0, 1) := by decide +kernel
theorem dX6_moveTo_1 : decode cX6_moveTo 1 = .ok (.getfield 11, 3) := by decide +kernel
theorem dX6_moveTo_4 : decode cX6_moveTo 4 = .ok (.iload_n 1, 1) := by decide +kernel
theorem dX6_moveTo_5 : decode cX6_moveTo 5 = .ok (.aaload, 1) := by decide +kernel
theorem dX6_moveTo_6 : decode cX6_moveTo 6 = .ok (.astore 4, 2) := by decide +kernel
theorem dX6_moveTo_8 : decode cX6_moveTo 8 = .ok (.aload 4, 2) := by decide +kernel
theorem dX6_moveTo_10 : decode cX6_moveTo 10 = .ok (.iload_n 2, 1) := by decide +kernel
theorem dX6_moveTo_11 : decode cX6_moveTo 11 = .ok (.putfield 109, 3) := by decide +kernel
theorem dX6_moveTo_14 : decode cX6_moveTo 14 = .ok (.aload 4, 2) := by decide +kernel
theorem dX6_moveTo_16 : decode cX6_moveTo 16 = .ok (.iload_n 3, 1) := by decide +kernel
theorem dX6_moveTo_17 : decode cX6_moveTo 17 = .ok (.putfield 112, 3) := by decide +kernel
theorem dX6_moveTo_20 : decode cX6_moveTo 20 = .ok (.iconst 0, 1) := by decide +kernel
theorem dX6_moveTo_21 : decode cX6_moveTo 21 = .ok (.istore 5, 2) := by decide +kernel
theorem dX6_moveTo_23 : decode cX6_moveTo 23 = .ok (.iconst 0, 1) := by decide +kernel
theorem dX6_moveTo_24 : decode cX6_moveTo 24 = .ok (.istore 6, 2) := by decide +kernel
theorem dX6_moveTo_26 : decode cX6_moveTo 26 = .ok (.iload 6, 2) := by decide +kernel
theorem dX6_moveTo_28 : decode cX6_moveTo 28 = .ok (.aload_n 0, 1) := by decide +kernel
theorem dX6_moveTo_29 : decode cX6_moveTo 29 = .ok (.getfield 18, 3) := by decide +kernel
theorem dX6_moveTo_32 : decode cX6_moveTo 32 = .ok (.if_icmp .ge 27, 3) := by decide +kernel
theorem dX6_moveTo_35 : decode cX6_moveTo 35 = .ok (.aload_n 0, 1) := by decide +kernel
theorem dX6_moveTo_36 : decode cX6_moveTo 36 = .ok (.getfield 11, 3) := by decide +kernel
theorem dX6_moveTo_39 : decode cX6_moveTo 39 = .ok (.iload 6, 2) := by decide +kernel
theorem dX6_moveTo_41 : decode cX6_moveTo 41 = .ok (.aaload, 1) := by decide +kernel
theorem dX6_moveTo_42 : decode cX6_moveTo 42 = .ok (.aload 4, 2) := by decide +kernel
theorem dX6_moveTo_44 : decode cX6_moveTo 44 = .ok (.invokevirtual 130, 3) := by decide +kernel
theorem dX6_moveTo_47 : decode cX6_moveTo 47 = .ok (.ifCond .eq 6, 3) := by decide +kernel
theorem dX6_moveTo_50 : decode cX6_moveTo 50 = .ok (.iinc 5 1, 3) := by decide +kernel
theorem dX6_moveTo_53 : decode cX6_moveTo 53 = .ok (.iinc 6 1, 3) := by decide +kernel
theorem dX6_moveTo_56 : decode cX6_moveTo 56 = .ok (.goto (-30), 3) := by decide +kernel
theorem dX6_moveTo_59 : decode cX6_moveTo 59 = .ok (.iload 5, 2) := by decide +kernel
theorem dX6_moveTo_61 : decode cX6_moveTo 61 = .ok (.ireturn, 1) := by decide +kernel
theorem dX6_changePower_0 : decode cX6_changePower 0 = .ok (.aload_n 0, 1) := by decide +kernel
theorem dX6_changePower_1 : decode cX6_changePower 1 = .ok (.getfield 11, 3) := by decide +kernel
theorem dX6_changePower_4 : decode cX6_changePower 4 = .ok (.iload_n 1, 1) := by decide +kernel
theorem dX6_changePower_5 : decode cX6_changePower 5 = .ok (.aaload, 1) := by decide +kernel
theorem dX6_changePower_6 : decode cX6_changePower 6 = .ok (.getfield 115, 3) := by decide +kernel
theorem dX6_changePower_9 : decode cX6_changePower 9 = .ok (.istore_n 3, 1) := by decide +kernel
theorem dX6_changePower_10 : decode cX6_changePower 10 = .ok (.aload_n 0, 1) := by decide +kernel
theorem dX6_changePower_11 : decode cX6_changePower 11 = .ok (.getfield 11, 3) := by decide +kernel
theorem dX6_changePower_14 : decode cX6_changePower 14 = .ok (.iload_n 1, 1) := by decide +kernel
theorem dX6_changePower_15 : decode cX6_changePower 15 = .ok (.aaload, 1) := by decide +kernel
theorem dX6_changePower_16 : decode cX6_changePower 16 = .ok (.iload_n 2, 1) := by decide +kernel
theorem dX6_changePower_17 : decode cX6_changePower 17 = .ok (.putfield 115, 3) := by decide +kernel
theorem dX6_changePower_20 : decode cX6_changePower 20 = .ok (.iload_n 3, 1) := by decide +kernel
theorem dX6_changePower_21 : decode cX6_changePower 21 = .ok (.ireturn, 1) := by decide +kernel
theorem dX6_changeChannel_0 : decode cX6_changeChannel 0 = .ok (.aload_n 0, 1) := by decide +kernel
theorem dX6_changeChannel_1 : decode cX6_changeChannel 1 = .ok (.getfield 11, 3) := by decide +kernel
theorem dX6_changeChannel_4 : decode cX6_changeChannel 4 = .ok (.iload_n 1, 1) := by decide +kernel
theorem dX6_changeChannel_5 : decode cX6_changeChannel 5 = .ok (.aaload, 1) := by decide +kernel
theorem dX6_changeChannel_6 : decode cX6_changeChannel 6 = .ok (.getfield 118, 3) := by decide +kernel
theorem dX6_changeChannel_9 : decode cX6_changeChannel 9 = .ok (.istore_n 3, 1) := by decide +kernel
theorem dX6_changeChannel_10 : decode cX6_changeChannel 10 = .ok (.aload_n 0, 1) := by decide +kernel
theorem dX6_changeChannel_11 : decode cX6_changeChannel 11 = .ok (.getfield 11, 3) := by decide +kernel
theorem dX6_changeChannel_14 : decode cX6_changeChannel 14 = .ok (.iload_n 1, 1) := by decide +kernel
theorem dX6_changeChannel_15 : decode cX6_changeChannel 15 = .ok (.aaload, 1) := by decide +kernel
theorem dX6_changeChannel_16 : decode cX6_changeChannel 16 = .ok (.iload_n 2, 1) := by decide +kernel
theorem dX6_changeChannel_17 : decode cX6_changeChannel 17 = .ok (.putfield 118, 3) := by decide +kernel
theorem dX6_changeChannel_20 : decode cX6_changeChannel 20 = .ok (.iload_n 3, 1) := by decide +kernel
theorem dX6_changeChannel_21 : decode cX6_changeChannel 21 = .ok (.ireturn, 1) := by decide +kernel
theorem dX6_changeTurnLimit_0 : decode cX6_changeTurnLimit 0 = .ok (.aload_n 0, 1) := by decide +kernel
theorem dX6_changeTurnLimit_1 : decode cX6_changeTurnLimit 1 = .ok (.getfield 39, 3) := by decide +kernel
theorem dX6_changeTurnLimit_4 : decode cX6_changeTurnLimit 4 = .ok (.istore_n 2, 1) := by decide +kernel
theorem dX6_changeTurnLimit_5 : decode cX6_changeTurnLimit 5 = .ok (.aload_n 0, 1) := by decide +kernel
theorem dX6_changeTurnLimit_6 : decode cX6_changeTurnLimit 6 = .ok (.iload_n 1, 1) := by decide +kernel
theorem dX6_changeTurnLimit_7 : decode cX6_changeTurnLimit 7 = .ok (.putfield 39, 3) := by decide +kernel
theorem dX6_changeTurnLimit_10 : decode cX6_changeTurnLimit 10 = .ok (.iload_n 2, 1) := by decide +kernel
theorem dX6_changeTurnLimit_11 : decode cX6_changeTurnLimit 11 = .ok (.ireturn, 1) := by decide +kernel
theorem dX6_beginTurn_0 : decode cX6_beginTurn 0 = .ok (.aload_n 0, 1) := by decide +kernel
theorem dX6_beginTurn_1 : decode cX6_beginTurn 1 = .ok (.getfield 11, 3) := by decide +kernel
theorem dX6_beginTurn_4 : decode cX6_beginTurn 4 = .ok (.iload_n 1, 1) := by decide +kernel
theorem dX6_beginTurn_5 : decode cX6_beginTurn 5 = .ok (.aaload, 1) := by decide +kernel
theorem dX6_beginTurn_6 : decode cX6_beginTurn 6 = .ok (.getstatic 148, 3) := by decide +kernel
theorem dX6_beginTurn_9 : decode cX6_beginTurn 9 = .ok (.putfield 99, 3) := by decide +kernel
theorem dX6_beginTurn_12 : decode cX6_beginTurn 12 = .ok (.aload_n 0, 1) := by decide +kernel
theorem dX6_beginTurn_13 : decode cX6_beginTurn 13 = .ok (.getfield 11, 3) := by decide +kernel
theorem dX6_beginTurn_16 : decode cX6_beginTurn 16 = .ok (.iload_n 1, 1) := by decide +kernel
theorem dX6_beginTurn_17 : decode cX6_beginTurn 17 = .ok (.aaload, 1) := by decide +kernel
theorem dX6_beginTurn_18 : decode cX6_beginTurn 18 = .ok (.aload_n 0, 1) := by decide +kernel
theorem dX6_beginTurn_19 : decode cX6_beginTurn 19 = .ok (.getfield 36, 3) := by decide +kernel
theorem dX6_beginTurn_22 : decode cX6_beginTurn 22 = .ok (.putfield 121, 3) := by decide +kernel
theorem dX6_beginTurn_25 : decode cX6_beginTurn 25 = .ok (.return_, 1) := by decide +kernel
theorem dX6_speakOrWait_0 : decode cX6_speakOrWait 0 = .ok (.aload_n 0, 1) := by decide +kernel
theorem dX6_speakOrWait_1 : decode cX6_speakOrWait 1 = .ok (.getfield 11, 3) := by decide +kernel
theorem dX6_speakOrWait_4 : decode cX6_speakOrWait 4 = .ok (.iload_n 1, 1) := by decide +kernel
theorem dX6_speakOrWait_5 : decode cX6_speakOrWait 5 = .ok (.aaload, 1) := by decide +kernel
theorem dX6_speakOrWait_6 : decode cX6_speakOrWait 6 = .ok (.getfield 118, 3) := by decide +kernel
theorem dX6_speakOrWait_9 : decode cX6_speakOrWait 9 = .ok (.istore_n 2, 1) := by decide +kernel
theorem dX6_speakOrWait_10 : decode cX6_speakOrWait 10 = .ok (.aload_n 0, 1) := by decide +kernel
theorem dX6_speakOrWait_11 : decode cX6_speakOrWait 11 = .ok (.iload_n 2, 1) := by decide +kernel
theorem dX6_speakOrWait_12 : decode cX6_speakOrWait 12 = .ok (.invokevirtual 134, 3) := by decide +kernel
theorem dX6_speakOrWait_15 : decode cX6_speakOrWait 15 = .ok (.ifCond .ge 10, 3) := by decide +kernel
theorem dX6_speakOrWait_18 : decode cX6_speakOrWait 18 = .ok (.aload_n 0, 1) := by decide +kernel
theorem dX6_speakOrWait_19 : decode cX6_speakOrWait 19 = .ok (.iload_n 1, 1) := by decide +kernel
theorem dX6_speakOrWait_20 : decode cX6_speakOrWait 20 = .ok (.invokevirtual 138, 3) := by decide +kernel
theorem dX6_speakOrWait_23 : decode cX6_speakOrWait 23 = .ok (.iconst 0, 1) := by decide +kernel
theorem dX6_speakOrWait_24 : decode cX6_speakOrWait 24 = .ok (.ireturn, 1) := by decide +kernel
theorem dX6_speakOrWait_25 : decode cX6_speakOrWait 25 = .ok (.aload_n 0, 1) := by decide +kernel
theorem dX6_speakOrWait_26 : decode cX6_speakOrWait 26 = .ok (.getfield 11, 3) := by decide +kernel
theorem dX6_speakOrWait_29 : decode cX6_speakOrWait 29 = .ok (.iload_n 1, 1) := by decide +kernel
theorem dX6_speakOrWait_30 : decode cX6_speakOrWait 30 = .ok (.aaload, 1) := by decide +kernel
theorem dX6_speakOrWait_31 : decode cX6_speakOrWait 31 = .ok (.getstatic 142, 3) := by decide +kernel
theorem dX6_speakOrWait_34 : decode cX6_speakOrWait 34 = .ok (.putfield 99, 3) := by decide +kernel
theorem dX6_speakOrWait_37 : decode cX6_speakOrWait 37 = .ok (.aload_n 0, 1) := by decide +kernel
theorem dX6_speakOrWait_38 : decode cX6_speakOrWait 38 = .ok (.getfield 26, 3) := by decide +kernel
theorem dX6_speakOrWait_41 : decode cX6_speakOrWait 41 = .ok (.bipush 8, 2) := by decide +kernel
theorem dX6_speakOrWait_43 : decode cX6_speakOrWait 43 = .ok (.if_icmp .ge 23, 3) := by decide +kernel
theorem dX6_speakOrWait_46 : decode cX6_speakOrWait 46 = .ok (.aload_n 0, 1) := by decide +kernel
theorem dX6_speakOrWait_47 : decode cX6_speakOrWait 47 = .ok (.getfield 22, 3) := by decide +kernel
theorem dX6_speakOrWait_50 : decode cX6_speakOrWait 50 = .ok (.aload_n 0, 1) := by decide +kernel
theorem dX6_speakOrWait_51 : decode cX6_speakOrWait 51 = .ok (.getfield 26, 3) := by decide +kernel
theorem dX6_speakOrWait_54 : decode cX6_speakOrWait 54 = .ok (.iload_n 1, 1) := by decide +kernel
theorem dX6_speakOrWait_55 : decode cX6_speakOrWait 55 = .ok (.iastore, 1) := by decide +kernel
theorem dX6_speakOrWait_56 : decode cX6_speakOrWait 56 = .ok (.aload_n 0, 1) := by decide +kernel
theorem dX6_speakOrWait_57 : decode cX6_speakOrWait 57 = .ok (.dup, 1) := by decide +kernel
theorem dX6_speakOrWait_58 : decode cX6_speakOrWait 58 = .ok (.getfield 26, 3) := by decide +kernel
theorem dX6_speakOrWait_61 : decode cX6_speakOrWait 61 = .ok (.iconst 1, 1) := by decide +kernel
theorem dX6_speakOrWait_62 : decode cX6_speakOrWait 62 = .ok (.iadd, 1) := by decide +kernel
theorem dX6_speakOrWait_63 : decode cX6_speakOrWait 63 = .ok (.putfield 26, 3) := by decide +kernel
theorem dX6_speakOrWait_66 : decode cX6_speakOrWait 66 = .ok (.aload_n 0, 1) := by decide +kernel
theorem dX6_speakOrWait_67 : decode cX6_speakOrWait 67 = .ok (.iload_n 2, 1) := by decide +kernel
theorem dX6_speakOrWait_68 : decode cX6_speakOrWait 68 = .ok (.invokevirtual 145, 3) := by decide +kernel
theorem dX6_speakOrWait_71 : decode cX6_speakOrWait 71 = .ok (.ireturn, 1) := by decide +kernel
theorem dX6_leaveLine_0 : decode cX6_leaveLine 0 = .ok (.iconst 0, 1) := by decide +kernel
theorem dX6_leaveLine_1 : decode cX6_leaveLine 1 = .ok (.istore_n 2, 1) := by decide +kernel
theorem dX6_leaveLine_2 : decode cX6_leaveLine 2 = .ok (.iconst 0, 1) := by decide +kernel
theorem dX6_leaveLine_3 : decode cX6_leaveLine 3 = .ok (.istore_n 3, 1) := by decide +kernel
theorem dX6_leaveLine_4 : decode cX6_leaveLine 4 = .ok (.iload_n 3, 1) := by decide +kernel
theorem dX6_leaveLine_5 : decode cX6_leaveLine 5 = .ok (.aload_n 0, 1) := by decide +kernel
theorem dX6_leaveLine_6 : decode cX6_leaveLine 6 = .ok (.getfield 26, 3) := by decide +kernel
theorem dX6_leaveLine_9 : decode cX6_leaveLine 9 = .ok (.if_icmp .ge 34, 3) := by decide +kernel
theorem dX6_leaveLine_12 : decode cX6_leaveLine 12 = .ok (.aload_n 0, 1) := by decide +kernel
theorem dX6_leaveLine_13 : decode cX6_leaveLine 13 = .ok (.getfield 22, 3) := by decide +kernel
theorem dX6_leaveLine_16 : decode cX6_leaveLine 16 = .ok (.iload_n 3, 1) := by decide +kernel
theorem dX6_leaveLine_17 : decode cX6_leaveLine 17 = .ok (.iaload, 1) := by decide +kernel
theorem dX6_leaveLine_18 : decode cX6_leaveLine 18 = .ok (.iload_n 1, 1) := by decide +kernel
theorem dX6_leaveLine_19 : decode cX6_leaveLine 19 = .ok (.if_icmp .eq 18, 3) := by decide +kernel
theorem dX6_leaveLine_22 : decode cX6_leaveLine 22 = .ok (.aload_n 0, 1) := by decide +kernel
theorem dX6_leaveLine_23 : decode cX6_leaveLine 23 = .ok (.getfield 22, 3) := by decide +kernel
theorem dX6_leaveLine_26 : decode cX6_leaveLine 26 = .ok (.iload_n 2, 1) := by decide +kernel
theorem dX6_leaveLine_27 : decode cX6_leaveLine 27 = .ok (.aload_n 0, 1) := by decide +kernel
theorem dX6_leaveLine_28 : decode cX6_leaveLine 28 = .ok (.getfield 22, 3) := by decide +kernel
theorem dX6_leaveLine_31 : decode cX6_leaveLine 31 = .ok (.iload_n 3, 1) := by decide +kernel
theorem dX6_leaveLine_32 : decode cX6_leaveLine 32 = .ok (.iaload, 1) := by decide +kernel
theorem dX6_leaveLine_33 : decode cX6_leaveLine 33 = .ok (.iastore, 1) := by decide +kernel
theorem dX6_leaveLine_34 : decode cX6_leaveLine 34 = .ok (.iinc 2 1, 3) := by decide +kernel
theorem dX6_leaveLine_37 : decode cX6_leaveLine 37 = .ok (.iinc 3 1, 3) := by decide +kernel
theorem dX6_leaveLine_40 : decode cX6_leaveLine 40 = .ok (.goto (-36), 3) := by decide +kernel
theorem dX6_leaveLine_43 : decode cX6_leaveLine 43 = .ok (.aload_n 0, 1) := by decide +kernel
theorem dX6_leaveLine_44 : decode cX6_leaveLine 44 = .ok (.iload_n 2, 1) := by decide +kernel
theorem dX6_leaveLine_45 : decode cX6_leaveLine 45 = .ok (.putfield 26, 3) := by decide +kernel
theorem dX6_leaveLine_48 : decode cX6_leaveLine 48 = .ok (.return_, 1) := by decide +kernel
theorem dX6_endTurn_0 : decode cX6_endTurn 0 = .ok (.aload_n 0, 1) := by decide +kernel
theorem dX6_endTurn_1 : decode cX6_endTurn 1 = .ok (.getfield 11, 3) := by decide +kernel
theorem dX6_endTurn_4 : decode cX6_endTurn 4 = .ok (.iload_n 1, 1) := by decide +kernel
theorem dX6_endTurn_5 : decode cX6_endTurn 5 = .ok (.aaload, 1) := by decide +kernel
theorem dX6_endTurn_6 : decode cX6_endTurn 6 = .ok (.astore_n 2, 1) := by decide +kernel
theorem dX6_endTurn_7 : decode cX6_endTurn 7 = .ok (.aload_n 0, 1) := by decide +kernel
theorem dX6_endTurn_8 : decode cX6_endTurn 8 = .ok (.getfield 36, 3) := by decide +kernel
theorem dX6_endTurn_11 : decode cX6_endTurn 11 = .ok (.aload_n 2, 1) := by decide +kernel
theorem dX6_endTurn_12 : decode cX6_endTurn 12 = .ok (.getfield 121, 3) := by decide +kernel
theorem dX6_endTurn_15 : decode cX6_endTurn 15 = .ok (.isub, 1) := by decide +kernel
theorem dX6_endTurn_16 : decode cX6_endTurn 16 = .ok (.istore_n 3, 1) := by decide +kernel
theorem dX6_endTurn_17 : decode cX6_endTurn 17 = .ok (.aload_n 0, 1) := by decide +kernel
theorem dX6_endTurn_18 : decode cX6_endTurn 18 = .ok (.getfield 32, 3) := by decide +kernel
theorem dX6_endTurn_21 : decode cX6_endTurn 21 = .ok (.iload_n 1, 1) := by decide +kernel
theorem dX6_endTurn_22 : decode cX6_endTurn 22 = .ok (.aload_n 2, 1) := by decide +kernel
theorem dX6_endTurn_23 : decode cX6_endTurn 23 = .ok (.getfield 121, 3) := by decide +kernel
theorem dX6_endTurn_26 : decode cX6_endTurn 26 = .ok (.iload_n 3, 1) := by decide +kernel
theorem dX6_endTurn_27 : decode cX6_endTurn 27 = .ok (.invokevirtual 151, 3) := by decide +kernel
theorem dX6_endTurn_30 : decode cX6_endTurn 30 = .ok (.aload_n 2, 1) := by decide +kernel
theorem dX6_endTurn_31 : decode cX6_endTurn 31 = .ok (.getstatic 89, 3) := by decide +kernel
theorem dX6_endTurn_34 : decode cX6_endTurn 34 = .ok (.putfield 99, 3) := by decide +kernel
theorem dX6_endTurn_37 : decode cX6_endTurn 37 = .ok (.aload_n 0, 1) := by decide +kernel
theorem dX6_endTurn_38 : decode cX6_endTurn 38 = .ok (.aload_n 2, 1) := by decide +kernel
theorem dX6_endTurn_39 : decode cX6_endTurn 39 = .ok (.getfield 118, 3) := by decide +kernel
theorem dX6_endTurn_42 : decode cX6_endTurn 42 = .ok (.iconst 1, 1) := by decide +kernel
theorem dX6_endTurn_43 : decode cX6_endTurn 43 = .ok (.invokevirtual 155, 3) := by decide +kernel
theorem dX6_endTurn_46 : decode cX6_endTurn 46 = .ok (.istore 4, 2) := by decide +kernel
theorem dX6_endTurn_48 : decode cX6_endTurn 48 = .ok (.iload 4, 2) := by decide +kernel
theorem dX6_endTurn_50 : decode cX6_endTurn 50 = .ok (.ifCond .lt 15, 3) := by decide +kernel
theorem dX6_endTurn_53 : decode cX6_endTurn 53 = .ok (.aload_n 0, 1) := by decide +kernel
theorem dX6_endTurn_54 : decode cX6_endTurn 54 = .ok (.iload 4, 2) := by decide +kernel
theorem dX6_endTurn_56 : decode cX6_endTurn 56 = .ok (.invokevirtual 159, 3) := by decide +kernel
theorem dX6_endTurn_59 : decode cX6_endTurn 59 = .ok (.aload_n 0, 1) := by decide +kernel
theorem dX6_endTurn_60 : decode cX6_endTurn 60 = .ok (.iload 4, 2) := by decide +kernel
theorem dX6_endTurn_62 : decode cX6_endTurn 62 = .ok (.invokevirtual 138, 3) := by decide +kernel
theorem dX6_endTurn_65 : decode cX6_endTurn 65 = .ok (.iload_n 3, 1) := by decide +kernel
theorem dX6_endTurn_66 : decode cX6_endTurn 66 = .ok (.ireturn, 1) := by decide +kernel
theorem dX6_stopWaiting_0 : decode cX6_stopWaiting 0 = .ok (.aload_n 0, 1) := by decide +kernel
theorem dX6_stopWaiting_1 : decode cX6_stopWaiting 1 = .ok (.iload_n 1, 1) := by decide +kernel
theorem dX6_stopWaiting_2 : decode cX6_stopWaiting 2 = .ok (.invokevirtual 159, 3) := by decide +kernel
theorem dX6_stopWaiting_5 : decode cX6_stopWaiting 5 = .ok (.aload_n 0, 1) := by decide +kernel
theorem dX6_stopWaiting_6 : decode cX6_stopWaiting 6 = .ok (.getfield 11, 3) := by decide +kernel
theorem dX6_stopWaiting_9 : decode cX6_stopWaiting 9 = .ok (.iload_n 1, 1) := by decide +kernel
theorem dX6_stopWaiting_10 : decode cX6_stopWaiting 10 = .ok (.aaload, 1) := by decide +kernel
theorem dX6_stopWaiting_11 : decode cX6_stopWaiting 11 = .ok (.getstatic 89, 3) := by decide +kernel
theorem dX6_stopWaiting_14 : decode cX6_stopWaiting 14 = .ok (.putfield 99, 3) := by decide +kernel
theorem dX6_stopWaiting_17 : decode cX6_stopWaiting 17 = .ok (.aload_n 0, 1) := by decide +kernel
theorem dX6_stopWaiting_18 : decode cX6_stopWaiting 18 = .ok (.aload_n 0, 1) := by decide +kernel
theorem dX6_stopWaiting_19 : decode cX6_stopWaiting 19 = .ok (.getfield 11, 3) := by decide +kernel
theorem dX6_stopWaiting_22 : decode cX6_stopWaiting 22 = .ok (.iload_n 1, 1) := by decide +kernel
theorem dX6_stopWaiting_23 : decode cX6_stopWaiting 23 = .ok (.aaload, 1) := by decide +kernel
theorem dX6_stopWaiting_24 : decode cX6_stopWaiting 24 = .ok (.getfield 118, 3) := by decide +kernel
theorem dX6_stopWaiting_27 : decode cX6_stopWaiting 27 = .ok (.invokevirtual 145, 3) := by decide +kernel
theorem dX6_stopWaiting_30 : decode cX6_stopWaiting 30 = .ok (.ireturn, 1) := by decide +kernel
theorem dX6_endLongTurns_0 : decode cX6_endLongTurns 0 = .ok (.iconst 0, 1) := by decide +kernel
theorem dX6_endLongTurns_1 : decode cX6_endLongTurns 1 = .ok (.istore_n 1, 1) := by decide +kernel
theorem dX6_endLongTurns_2 : decode cX6_endLongTurns 2 = .ok (.iload_n 1, 1) := by decide +kernel
theorem dX6_endLongTurns_3 : decode cX6_endLongTurns 3 = .ok (.aload_n 0, 1) := by decide +kernel
theorem dX6_endLongTurns_4 : decode cX6_endLongTurns 4 = .ok (.getfield 18, 3) := by decide +kernel
theorem dX6_endLongTurns_7 : decode cX6_endLongTurns 7 = .ok (.if_icmp .ge 51, 3) := by decide +kernel
theorem dX6_endLongTurns_10 : decode cX6_endLongTurns 10 = .ok (.aload_n 0, 1) := by decide +kernel
theorem dX6_endLongTurns_11 : decode cX6_endLongTurns 11 = .ok (.getfield 11, 3) := by decide +kernel
theorem dX6_endLongTurns_14 : decode cX6_endLongTurns 14 = .ok (.iload_n 1, 1) := by decide +kernel
theorem dX6_endLongTurns_15 : decode cX6_endLongTurns 15 = .ok (.aaload, 1) := by decide +kernel
theorem dX6_endLongTurns_16 : decode cX6_endLongTurns 16 = .ok (.getfield 99, 3) := by decide +kernel
theorem dX6_endLongTurns_19 : decode cX6_endLongTurns 19 = .ok (.getstatic 148, 3) := by decide +kernel
theorem dX6_endLongTurns_22 : decode cX6_endLongTurns 22 = .ok (.if_acmp .ne 30, 3) := by decide +kernel
theorem dX6_endLongTurns_25 : decode cX6_endLongTurns 25 = .ok (.aload_n 0, 1) := by decide +kernel
theorem dX6_endLongTurns_26 : decode cX6_endLongTurns 26 = .ok (.getfield 36, 3) := by decide +kernel
theorem dX6_endLongTurns_29 : decode cX6_endLongTurns 29 = .ok (.aload_n 0, 1) := by decide +kernel
theorem dX6_endLongTurns_30 : decode cX6_endLongTurns 30 = .ok (.getfield 11, 3) := by decide +kernel
theorem dX6_endLongTurns_33 : decode cX6_endLongTurns 33 = .ok (.iload_n 1, 1) := by decide +kernel
theorem dX6_endLongTurns_34 : decode cX6_endLongTurns 34 = .ok (.aaload, 1) := by decide +kernel
theorem dX6_endLongTurns_35 : decode cX6_endLongTurns 35 = .ok (.getfield 121, 3) := by decide +kernel
theorem dX6_endLongTurns_38 : decode cX6_endLongTurns 38 = .ok (.isub, 1) := by decide +kernel
theorem dX6_endLongTurns_39 : decode cX6_endLongTurns 39 = .ok (.aload_n 0, 1) := by decide +kernel
theorem dX6_endLongTurns_40 : decode cX6_endLongTurns 40 = .ok (.getfield 39, 3) := by decide +kernel
theorem dX6_endLongTurns_43 : decode cX6_endLongTurns 43 = .ok (.if_icmp .lt 9, 3) := by decide +kernel
theorem dX6_endLongTurns_46 : decode cX6_endLongTurns 46 = .ok (.aload_n 0, 1) := by decide +kernel
theorem dX6_endLongTurns_47 : decode cX6_endLongTurns 47 = .ok (.iload_n 1, 1) := by decide +kernel
theorem dX6_endLongTurns_48 : decode cX6_endLongTurns 48 = .ok (.invokevirtual 175, 3) := by decide +kernel
theorem dX6_endLongTurns_51 : decode cX6_endLongTurns 51 = .ok (.pop, 1) := by decide +kernel
theorem dX6_endLongTurns_52 : decode cX6_endLongTurns 52 = .ok (.iinc 1 1, 3) := by decide +kernel
theorem dX6_endLongTurns_55 : decode cX6_endLongTurns 55 = .ok (.goto (-53), 3) := by decide +kernel
theorem dX6_endLongTurns_58 : decode cX6_endLongTurns 58 = .ok (.return_, 1) := by decide +kernel
theorem dX6_passMinute_0 : decode cX6_passMinute 0 = .ok (.iconst 0, 1) := by decide +kernel
theorem dX6_passMinute_1 : decode cX6_passMinute 1 = .ok (.istore_n 1, 1) := by decide +kernel
theorem dX6_passMinute_2 : decode cX6_passMinute 2 = .ok (.iconst 0, 1) := by decide +kernel
theorem dX6_passMinute_3 : decode cX6_passMinute 3 = .ok (.istore_n 2, 1) := by decide +kernel
theorem dX6_passMinute_4 : decode cX6_passMinute 4 = .ok (.iload_n 2, 1) := by decide +kernel
theorem dX6_passMinute_5 : decode cX6_passMinute 5 = .ok (.aload_n 0, 1) := by decide +kernel
theorem dX6_passMinute_6 : decode cX6_passMinute 6 = .ok (.getfield 18, 3) := by decide +kernel
theorem dX6_passMinute_9 : decode cX6_passMinute 9 = .ok (.if_icmp .ge 65, 3) := by decide +kernel
theorem dX6_passMinute_12 : decode cX6_passMinute 12 = .ok (.aload_n 0, 1) := by decide +kernel
theorem dX6_passMinute_13 : decode cX6_passMinute 13 = .ok (.getfield 11, 3) := by decide +kernel
theorem dX6_passMinute_16 : decode cX6_passMinute 16 = .ok (.iload_n 2, 1) := by decide +kernel
theorem dX6_passMinute_17 : decode cX6_passMinute 17 = .ok (.aaload, 1) := by decide +kernel
theorem dX6_passMinute_18 : decode cX6_passMinute 18 = .ok (.astore_n 3, 1) := by decide +kernel
theorem dX6_passMinute_19 : decode cX6_passMinute 19 = .ok (.aload_n 3, 1) := by decide +kernel
theorem dX6_passMinute_20 : decode cX6_passMinute 20 = .ok (.getfield 99, 3) := by decide +kernel
theorem dX6_passMinute_23 : decode cX6_passMinute 23 = .ok (.getstatic 148, 3) := by decide +kernel
theorem dX6_passMinute_26 : decode cX6_passMinute 26 = .ok (.if_acmp .ne 13, 3) := by decide +kernel
theorem dX6_passMinute_29 : decode cX6_passMinute 29 = .ok (.aload_n 3, 1) := by decide +kernel
theorem dX6_passMinute_30 : decode cX6_passMinute 30 = .ok (.dup, 1) := by decide +kernel
theorem dX6_passMinute_31 : decode cX6_passMinute 31 = .ok (.getfield 124, 3) := by decide +kernel
theorem dX6_passMinute_34 : decode cX6_passMinute 34 = .ok (.iconst 1, 1) := by decide +kernel
theorem dX6_passMinute_35 : decode cX6_passMinute 35 = .ok (.iadd, 1) := by decide +kernel
theorem dX6_passMinute_36 : decode cX6_passMinute 36 = .ok (.putfield 124, 3) := by decide +kernel
theorem dX6_passMinute_39 : decode cX6_passMinute 39 = .ok (.aload_n 0, 1) := by decide +kernel
theorem dX6_passMinute_40 : decode cX6_passMinute 40 = .ok (.aload_n 3, 1) := by decide +kernel
theorem dX6_passMinute_41 : decode cX6_passMinute 41 = .ok (.invokevirtual 166, 3) := by decide +kernel
theorem dX6_passMinute_44 : decode cX6_passMinute 44 = .ok (.ifCond .eq 24, 3) := by decide +kernel
theorem dX6_passMinute_47 : decode cX6_passMinute 47 = .ok (.aload_n 0, 1) := by decide +kernel
theorem dX6_passMinute_48 : decode cX6_passMinute 48 = .ok (.aload_n 3, 1) := by decide +kernel
theorem dX6_passMinute_49 : decode cX6_passMinute 49 = .ok (.invokevirtual 169, 3) := by decide +kernel
theorem dX6_passMinute_52 : decode cX6_passMinute 52 = .ok (.ifCond .ne 16, 3) := by decide +kernel
theorem dX6_passMinute_55 : decode cX6_passMinute 55 = .ok (.aload_n 3, 1) := by decide +kernel
theorem dX6_passMinute_56 : decode cX6_passMinute 56 = .ok (.dup, 1) := by decide +kernel
theorem dX6_passMinute_57 : decode cX6_passMinute 57 = .ok (.getfield 127, 3) := by decide +kernel
theorem dX6_passMinute_60 : decode cX6_passMinute 60 = .ok (.iconst 1, 1) := by decide +kernel
theorem dX6_passMinute_61 : decode cX6_passMinute 61 = .ok (.iadd, 1) := by decide +kernel
theorem dX6_passMinute_62 : decode cX6_passMinute 62 = .ok (.putfield 127, 3) := by decide +kernel
theorem dX6_passMinute_65 : decode cX6_passMinute 65 = .ok (.iinc 1 1, 3) := by decide +kernel
theorem dX6_passMinute_68 : decode cX6_passMinute 68 = .ok (.iinc 2 1, 3) := by decide +kernel
theorem dX6_passMinute_71 : decode cX6_passMinute 71 = .ok (.goto (-67), 3) := by decide +kernel
theorem dX6_passMinute_74 : decode cX6_passMinute 74 = .ok (.aload_n 0, 1) := by decide +kernel
theorem dX6_passMinute_75 : decode cX6_passMinute 75 = .ok (.dup, 1) := by decide +kernel
theorem dX6_passMinute_76 : decode cX6_passMinute 76 = .ok (.getfield 36, 3) := by decide +kernel
theorem dX6_passMinute_79 : decode cX6_passMinute 79 = .ok (.iconst 1, 1) := by decide +kernel
theorem dX6_passMinute_80 : decode cX6_passMinute 80 = .ok (.iadd, 1) := by decide +kernel
theorem dX6_passMinute_81 : decode cX6_passMinute 81 = .ok (.putfield 36, 3) := by decide +kernel
theorem dX6_passMinute_84 : decode cX6_passMinute 84 = .ok (.aload_n 0, 1) := by decide +kernel
theorem dX6_passMinute_85 : decode cX6_passMinute 85 = .ok (.invokevirtual 172, 3) := by decide +kernel
theorem dX6_passMinute_88 : decode cX6_passMinute 88 = .ok (.iload_n 1, 1) := by decide +kernel
theorem dX6_passMinute_89 : decode cX6_passMinute 89 = .ok (.ireturn, 1) := by decide +kernel
theorem dX6_passMinutes_0 : decode cX6_passMinutes 0 = .ok (.iconst 0, 1) := by decide +kernel
theorem dX6_passMinutes_1 : decode cX6_passMinutes 1 = .ok (.istore_n 2, 1) := by decide +kernel
theorem dX6_passMinutes_2 : decode cX6_passMinutes 2 = .ok (.iconst 0, 1) := by decide +kernel
theorem dX6_passMinutes_3 : decode cX6_passMinutes 3 = .ok (.istore_n 3, 1) := by decide +kernel
theorem dX6_passMinutes_4 : decode cX6_passMinutes 4 = .ok (.iload_n 3, 1) := by decide +kernel
theorem dX6_passMinutes_5 : decode cX6_passMinutes 5 = .ok (.iload_n 1, 1) := by decide +kernel
theorem dX6_passMinutes_6 : decode cX6_passMinutes 6 = .ok (.if_icmp .ge 16, 3) := by decide +kernel
theorem dX6_passMinutes_9 : decode cX6_passMinutes 9 = .ok (.iload_n 2, 1) := by decide +kernel
theorem dX6_passMinutes_10 : decode cX6_passMinutes 10 = .ok (.aload_n 0, 1) := by decide +kernel
theorem dX6_passMinutes_11 : decode cX6_passMinutes 11 = .ok (.invokevirtual 162, 3) := by decide +kernel
theorem dX6_passMinutes_14 : decode cX6_passMinutes 14 = .ok (.iadd, 1) := by decide +kernel
theorem dX6_passMinutes_15 : decode cX6_passMinutes 15 = .ok (.istore_n 2, 1) := by decide +kernel
theorem dX6_passMinutes_16 : decode cX6_passMinutes 16 = .ok (.iinc 3 1, 3) := by decide +kernel
theorem dX6_passMinutes_19 : decode cX6_passMinutes 19 = .ok (.goto (-15), 3) := by decide +kernel
theorem dX6_passMinutes_22 : decode cX6_passMinutes 22 = .ok (.iload_n 2, 1) := by decide +kernel
theorem dX6_passMinutes_23 : decode cX6_passMinutes 23 = .ok (.ireturn, 1) := by decide +kernel
theorem dX9_copyFrom_0 : decode cX9_copyFrom 0 = .ok (.aload_n 0, 1) := by decide +kernel
theorem dX9_copyFrom_1 : decode cX9_copyFrom 1 = .ok (.aload_n 1, 1) := by decide +kernel
theorem dX9_copyFrom_2 : decode cX9_copyFrom 2 = .ok (.getfield 18, 3) := by decide +kernel
theorem dX9_copyFrom_5 : decode cX9_copyFrom 5 = .ok (.putfield 18, 3) := by decide +kernel
theorem dX9_copyFrom_8 : decode cX9_copyFrom 8 = .ok (.aload_n 0, 1) := by decide +kernel
theorem dX9_copyFrom_9 : decode cX9_copyFrom 9 = .ok (.aload_n 1, 1) := by decide +kernel
theorem dX9_copyFrom_10 : decode cX9_copyFrom 10 = .ok (.getfield 22, 3) := by decide +kernel
theorem dX9_copyFrom_13 : decode cX9_copyFrom 13 = .ok (.putfield 22, 3) := by decide +kernel
theorem dX9_copyFrom_16 : decode cX9_copyFrom 16 = .ok (.aload_n 0, 1) := by decide +kernel
theorem dX9_copyFrom_17 : decode cX9_copyFrom 17 = .ok (.aload_n 1, 1) := by decide +kernel
theorem dX9_copyFrom_18 : decode cX9_copyFrom 18 = .ok (.getfield 26, 3) := by decide +kernel
theorem dX9_copyFrom_21 : decode cX9_copyFrom 21 = .ok (.putfield 26, 3) := by decide +kernel
theorem dX9_copyFrom_24 : decode cX9_copyFrom 24 = .ok (.aload_n 0, 1) := by decide +kernel
theorem dX9_copyFrom_25 : decode cX9_copyFrom 25 = .ok (.aload_n 1, 1) := by decide +kernel
theorem dX9_copyFrom_26 : decode cX9_copyFrom 26 = .ok (.getfield 29, 3) := by decide +kernel
theorem dX9_copyFrom_29 : decode cX9_copyFrom 29 = .ok (.putfield 29, 3) := by decide +kernel
theorem dX9_copyFrom_32 : decode cX9_copyFrom 32 = .ok (.aload_n 0, 1) := by decide +kernel
theorem dX9_copyFrom_33 : decode cX9_copyFrom 33 = .ok (.aload_n 1, 1) := by decide +kernel
theorem dX9_copyFrom_34 : decode cX9_copyFrom 34 = .ok (.getfield 32, 3) := by decide +kernel
theorem dX9_copyFrom_37 : decode cX9_copyFrom 37 = .ok (.putfield 32, 3) := by decide +kernel
theorem dX9_copyFrom_40 : decode cX9_copyFrom 40 = .ok (.aload_n 0, 1) := by decide +kernel
theorem dX9_copyFrom_41 : decode cX9_copyFrom 41 = .ok (.aload_n 1, 1) := by decide +kernel
theorem dX9_copyFrom_42 : decode cX9_copyFrom 42 = .ok (.getfield 35, 3) := by decide +kernel
theorem dX9_copyFrom_45 : decode cX9_copyFrom 45 = .ok (.putfield 35, 3) := by decide +kernel
theorem dX9_copyFrom_48 : decode cX9_copyFrom 48 = .ok (.aload_n 0, 1) := by decide +kernel
theorem dX9_copyFrom_49 : decode cX9_copyFrom 49 = .ok (.aload_n 1, 1) := by decide +kernel
theorem dX9_copyFrom_50 : decode cX9_copyFrom 50 = .ok (.getfield 13, 3) := by decide +kernel
theorem dX9_copyFrom_53 : decode cX9_copyFrom 53 = .ok (.putfield 13, 3) := by decide +kernel
theorem dX9_copyFrom_56 : decode cX9_copyFrom 56 = .ok (.aload_n 0, 1) := by decide +kernel
theorem dX9_copyFrom_57 : decode cX9_copyFrom 57 = .ok (.aload_n 1, 1) := by decide +kernel
theorem dX9_copyFrom_58 : decode cX9_copyFrom 58 = .ok (.getfield 38, 3) := by decide +kernel
theorem dX9_copyFrom_61 : decode cX9_copyFrom 61 = .ok (.putfield 38, 3) := by decide +kernel
theorem dX9_copyFrom_64 : decode cX9_copyFrom 64 = .ok (.aload_n 0, 1) := by decide +kernel
theorem dX9_copyFrom_65 : decode cX9_copyFrom 65 = .ok (.aload_n 1, 1) := by decide +kernel
theorem dX9_copyFrom_66 : decode cX9_copyFrom 66 = .ok (.getfield 41, 3) := by decide +kernel
theorem dX9_copyFrom_69 : decode cX9_copyFrom 69 = .ok (.putfield 41, 3) := by decide +kernel
theorem dX9_copyFrom_72 : decode cX9_copyFrom 72 = .ok (.aload_n 0, 1) := by decide +kernel
theorem dX9_copyFrom_73 : decode cX9_copyFrom 73 = .ok (.aload_n 1, 1) := by decide +kernel
theorem dX9_copyFrom_74 : decode cX9_copyFrom 74 = .ok (.getfield 44, 3) := by decide +kernel
theorem dX9_copyFrom_77 : decode cX9_copyFrom 77 = .ok (.putfield 44, 3) := by decide +kernel
theorem dX9_copyFrom_80 : decode cX9_copyFrom 80 = .ok (.return_, 1) := by decide +kernel
theorem dX10_copyFrom_0 : decode cX10_copyFrom 0 = .ok (.aload_n 0, 1) := by decide +kernel
theorem dX10_copyFrom_1 : decode cX10_copyFrom 1 = .ok (.aload_n 1, 1) := by decide +kernel
theorem dX10_copyFrom_2 : decode cX10_copyFrom 2 = .ok (.getfield 21, 3) := by decide +kernel
theorem dX10_copyFrom_5 : decode cX10_copyFrom 5 = .ok (.putfield 21, 3) := by decide +kernel
theorem dX10_copyFrom_8 : decode cX10_copyFrom 8 = .ok (.iconst 0, 1) := by decide +kernel
theorem dX10_copyFrom_9 : decode cX10_copyFrom 9 = .ok (.istore_n 2, 1) := by decide +kernel
theorem dX10_copyFrom_10 : decode cX10_copyFrom 10 = .ok (.iload_n 2, 1) := by decide +kernel
theorem dX10_copyFrom_11 : decode cX10_copyFrom 11 = .ok (.bipush 16, 2) := by decide +kernel
theorem dX10_copyFrom_13 : decode cX10_copyFrom 13 = .ok (.if_icmp .ge 45, 3) := by decide +kernel
theorem dX10_copyFrom_16 : decode cX10_copyFrom 16 = .ok (.aload_n 0, 1) := by decide +kernel
theorem dX10_copyFrom_17 : decode cX10_copyFrom 17 = .ok (.getfield 9, 3) := by decide +kernel
theorem dX10_copyFrom_20 : decode cX10_copyFrom 20 = .ok (.iload_n 2, 1) := by decide +kernel
theorem dX10_copyFrom_21 : decode cX10_copyFrom 21 = .ok (.aload_n 1, 1) := by decide +kernel
theorem dX10_copyFrom_22 : decode cX10_copyFrom 22 = .ok (.getfield 9, 3) := by decide +kernel
theorem dX10_copyFrom_25 : decode cX10_copyFrom 25 = .ok (.iload_n 2, 1) := by decide +kernel
theorem dX10_copyFrom_26 : decode cX10_copyFrom 26 = .ok (.iaload, 1) := by decide +kernel
theorem dX10_copyFrom_27 : decode cX10_copyFrom 27 = .ok (.iastore, 1) := by decide +kernel
theorem dX10_copyFrom_28 : decode cX10_copyFrom 28 = .ok (.aload_n 0, 1) := by decide +kernel
theorem dX10_copyFrom_29 : decode cX10_copyFrom 29 = .ok (.getfield 15, 3) := by decide +kernel
theorem dX10_copyFrom_32 : decode cX10_copyFrom 32 = .ok (.iload_n 2, 1) := by decide +kernel
theorem dX10_copyFrom_33 : decode cX10_copyFrom 33 = .ok (.aload_n 1, 1) := by decide +kernel
theorem dX10_copyFrom_34 : decode cX10_copyFrom 34 = .ok (.getfield 15, 3) := by decide +kernel
theorem dX10_copyFrom_37 : decode cX10_copyFrom 37 = .ok (.iload_n 2, 1) := by decide +kernel
theorem dX10_copyFrom_38 : decode cX10_copyFrom 38 = .ok (.iaload, 1) := by decide +kernel
theorem dX10_copyFrom_39 : decode cX10_copyFrom 39 = .ok (.iastore, 1) := by decide +kernel
theorem dX10_copyFrom_40 : decode cX10_copyFrom 40 = .ok (.aload_n 0, 1) := by decide +kernel
theorem dX10_copyFrom_41 : decode cX10_copyFrom 41 = .ok (.getfield 18, 3) := by decide +kernel
theorem dX10_copyFrom_44 : decode cX10_copyFrom 44 = .ok (.iload_n 2, 1) := by decide +kernel
theorem dX10_copyFrom_45 : decode cX10_copyFrom 45 = .ok (.aload_n 1, 1) := by decide +kernel
theorem dX10_copyFrom_46 : decode cX10_copyFrom 46 = .ok (.getfield 18, 3) := by decide +kernel
theorem dX10_copyFrom_49 : decode cX10_copyFrom 49 = .ok (.iload_n 2, 1) := by decide +kernel
theorem dX10_copyFrom_50 : decode cX10_copyFrom 50 = .ok (.iaload, 1) := by decide +kernel
theorem dX10_copyFrom_51 : decode cX10_copyFrom 51 = .ok (.iastore, 1) := by decide +kernel
theorem dX10_copyFrom_52 : decode cX10_copyFrom 52 = .ok (.iinc 2 1, 3) := by decide +kernel
theorem dX10_copyFrom_55 : decode cX10_copyFrom 55 = .ok (.goto (-45), 3) := by decide +kernel
theorem dX10_copyFrom_58 : decode cX10_copyFrom 58 = .ok (.return_, 1) := by decide +kernel
theorem dX6_copyFrom_0 : decode cX6_copyFrom 0 = .ok (.iconst 0, 1) := by decide +kernel
theorem dX6_copyFrom_1 : decode cX6_copyFrom 1 = .ok (.istore_n 2, 1) := by decide +kernel
theorem dX6_copyFrom_2 : decode cX6_copyFrom 2 = .ok (.iload_n 2, 1) := by decide +kernel
theorem dX6_copyFrom_3 : decode cX6_copyFrom 3 = .ok (.bipush 8, 2) := by decide +kernel
theorem dX6_copyFrom_5 : decode cX6_copyFrom 5 = .ok (.if_icmp .ge 36, 3) := by decide +kernel
theorem dX6_copyFrom_8 : decode cX6_copyFrom 8 = .ok (.aload_n 0, 1) := by decide +kernel
theorem dX6_copyFrom_9 : decode cX6_copyFrom 9 = .ok (.getfield 11, 3) := by decide +kernel
theorem dX6_copyFrom_12 : decode cX6_copyFrom 12 = .ok (.iload_n 2, 1) := by decide +kernel
theorem dX6_copyFrom_13 : decode cX6_copyFrom 13 = .ok (.aaload, 1) := by decide +kernel
theorem dX6_copyFrom_14 : decode cX6_copyFrom 14 = .ok (.aload_n 1, 1) := by decide +kernel
theorem dX6_copyFrom_15 : decode cX6_copyFrom 15 = .ok (.getfield 11, 3) := by decide +kernel
theorem dX6_copyFrom_18 : decode cX6_copyFrom 18 = .ok (.iload_n 2, 1) := by decide +kernel
theorem dX6_copyFrom_19 : decode cX6_copyFrom 19 = .ok (.aaload, 1) := by decide +kernel
theorem dX6_copyFrom_20 : decode cX6_copyFrom 20 = .ok (.invokevirtual 42, 3) := by decide +kernel
theorem dX6_copyFrom_23 : decode cX6_copyFrom 23 = .ok (.aload_n 0, 1) := by decide +kernel
theorem dX6_copyFrom_24 : decode cX6_copyFrom 24 = .ok (.getfield 22, 3) := by decide +kernel
theorem dX6_copyFrom_27 : decode cX6_copyFrom 27 = .ok (.iload_n 2, 1) := by decide +kernel
theorem dX6_copyFrom_28 : decode cX6_copyFrom 28 = .ok (.aload_n 1, 1) := by decide +kernel
theorem dX6_copyFrom_29 : decode cX6_copyFrom 29 = .ok (.getfield 22, 3) := by decide +kernel
theorem dX6_copyFrom_32 : decode cX6_copyFrom 32 = .ok (.iload_n 2, 1) := by decide +kernel
theorem dX6_copyFrom_33 : decode cX6_copyFrom 33 = .ok (.iaload, 1) := by decide +kernel
theorem dX6_copyFrom_34 : decode cX6_copyFrom 34 = .ok (.iastore, 1) := by decide +kernel
theorem dX6_copyFrom_35 : decode cX6_copyFrom 35 = .ok (.iinc 2 1, 3) := by decide +kernel
theorem dX6_copyFrom_38 : decode cX6_copyFrom 38 = .ok (.goto (-36), 3) := by decide +kernel
theorem dX6_copyFrom_41 : decode cX6_copyFrom 41 = .ok (.aload_n 0, 1) := by decide +kernel
theorem dX6_copyFrom_42 : decode cX6_copyFrom 42 = .ok (.aload_n 1, 1) := by decide +kernel
theorem dX6_copyFrom_43 : decode cX6_copyFrom 43 = .ok (.getfield 18, 3) := by decide +kernel
theorem dX6_copyFrom_46 : decode cX6_copyFrom 46 = .ok (.putfield 18, 3) := by decide +kernel
theorem dX6_copyFrom_49 : decode cX6_copyFrom 49 = .ok (.aload_n 0, 1) := by decide +kernel
theorem dX6_copyFrom_50 : decode cX6_copyFrom 50 = .ok (.aload_n 1, 1) := by decide +kernel
theorem dX6_copyFrom_51 : decode cX6_copyFrom 51 = .ok (.getfield 26, 3) := by decide +kernel
theorem dX6_copyFrom_54 : decode cX6_copyFrom 54 = .ok (.putfield 26, 3) := by decide +kernel
theorem dX6_copyFrom_57 : decode cX6_copyFrom 57 = .ok (.aload_n 0, 1) := by decide +kernel
theorem dX6_copyFrom_58 : decode cX6_copyFrom 58 = .ok (.getfield 32, 3) := by decide +kernel
theorem dX6_copyFrom_61 : decode cX6_copyFrom 61 = .ok (.aload_n 1, 1) := by decide +kernel
theorem dX6_copyFrom_62 : decode cX6_copyFrom 62 = .ok (.getfield 32, 3) := by decide +kernel
theorem dX6_copyFrom_65 : decode cX6_copyFrom 65 = .ok (.invokevirtual 46, 3) := by decide +kernel
theorem dX6_copyFrom_68 : decode cX6_copyFrom 68 = .ok (.aload_n 0, 1) := by decide +kernel
theorem dX6_copyFrom_69 : decode cX6_copyFrom 69 = .ok (.aload_n 1, 1) := by decide +kernel
theorem dX6_copyFrom_70 : decode cX6_copyFrom 70 = .ok (.getfield 36, 3) := by decide +kernel
theorem dX6_copyFrom_73 : decode cX6_copyFrom 73 = .ok (.putfield 36, 3) := by decide +kernel
theorem dX6_copyFrom_76 : decode cX6_copyFrom 76 = .ok (.aload_n 0, 1) := by decide +kernel
theorem dX6_copyFrom_77 : decode cX6_copyFrom 77 = .ok (.aload_n 1, 1) := by decide +kernel
theorem dX6_copyFrom_78 : decode cX6_copyFrom 78 = .ok (.getfield 39, 3) := by decide +kernel
theorem dX6_copyFrom_81 : decode cX6_copyFrom 81 = .ok (.putfield 39, 3) := by decide +kernel
theorem dX6_copyFrom_84 : decode cX6_copyFrom 84 = .ok (.return_, 1) := by decide +kernel
