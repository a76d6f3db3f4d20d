/-! ===== instructions: the reference ===== -/
theorem dX12_thrown_0 : decode cX12_thrown 0 = .ok (.aload_n 0, 1) := by decide +kernel
theorem dX12_thrown_1 : decode cX12_thrown 1 = .ok (.getfield 22, 3) := by decide +kernel
theorem dX12_thrown_4 : decode cX12_thrown 4 = .ok (.ireturn, 1) := by decide +kernel
theorem dX12_in_0 : decode cX12_in 0 = .ok (.iload_n 0, 1) := by decide +kernel
theorem dX12_in_1 : decode cX12_in 1 = .ok (.iload_n 1, 1) := by decide +kernel
theorem dX12_in_2 : decode cX12_in 2 = .ok (.if_icmp .lt 12, 3) := by decide +kernel
theorem dX12_in_5 : decode cX12_in 5 = .ok (.iload_n 0, 1) := by decide +kernel
theorem dX12_in_6 : decode cX12_in 6 = .ok (.iload_n 2, 1) := by decide +kernel
theorem dX12_in_7 : decode cX12_in 7 = .ok (.if_icmp .gt 7, 3) := by decide +kernel
theorem dX12_in_10 : decode cX12_in 10 = .ok (.iconst 1, 1) := by decide +kernel
theorem dX12_in_11 : decode cX12_in 11 = .ok (.goto 4, 3) := by decide +kernel
theorem dX12_in_14 : decode cX12_in 14 = .ok (.iconst 0, 1) := by decide +kernel
theorem dX12_in_15 : decode cX12_in 15 = .ok (.ireturn, 1) := by decide +kernel
theorem dX12_copy_0 : decode cX12_copy 0 = .ok (.iconst 0, 1) := by decide +kernel
theorem dX12_copy_1 : decode cX12_copy 1 = .ok (.istore 4, 2) := by decide +kernel
theorem dX12_copy_3 : decode cX12_copy 3 = .ok (.iload 4, 2) := by decide +kernel
theorem dX12_copy_5 : decode cX12_copy 5 = .ok (.sipush 160, 3) := by decide +kernel
theorem dX12_copy_8 : decode cX12_copy 8 = .ok (.if_icmp .ge 21, 3) := by decide +kernel
theorem dX12_copy_11 : decode cX12_copy 11 = .ok (.aload_n 2, 1) := by decide +kernel
theorem dX12_copy_12 : decode cX12_copy 12 = .ok (.iload_n 3, 1) := by decide +kernel
theorem dX12_copy_13 : decode cX12_copy 13 = .ok (.iload 4, 2) := by decide +kernel
theorem dX12_copy_15 : decode cX12_copy 15 = .ok (.iadd, 1) := by decide +kernel
theorem dX12_copy_16 : decode cX12_copy 16 = .ok (.aload_n 0, 1) := by decide +kernel
theorem dX12_copy_17 : decode cX12_copy 17 = .ok (.iload_n 1, 1) := by decide +kernel
theorem dX12_copy_18 : decode cX12_copy 18 = .ok (.iload 4, 2) := by decide +kernel
theorem dX12_copy_20 : decode cX12_copy 20 = .ok (.iadd, 1) := by decide +kernel
theorem dX12_copy_21 : decode cX12_copy 21 = .ok (.iaload, 1) := by decide +kernel
theorem dX12_copy_22 : decode cX12_copy 22 = .ok (.iastore, 1) := by decide +kernel
theorem dX12_copy_23 : decode cX12_copy 23 = .ok (.iinc 4 1, 3) := by decide +kernel
theorem dX12_copy_26 : decode cX12_copy 26 = .ok (.goto (-23), 3) := by decide +kernel
theorem dX12_copy_29 : decode cX12_copy 29 = .ok (.return_, 1) := by decide +kernel
theorem dX12_fail_0 : decode cX12_fail 0 = .ok (.aload_n 0, 1) := by decide +kernel
theorem dX12_fail_1 : decode cX12_fail 1 = .ok (.iload_n 1, 1) := by decide +kernel
theorem dX12_fail_2 : decode cX12_fail 2 = .ok (.putfield 22, 3) := by decide +kernel
theorem dX12_fail_5 : decode cX12_fail 5 = .ok (.iconst 0, 1) := by decide +kernel
theorem dX12_fail_6 : decode cX12_fail 6 = .ok (.ireturn, 1) := by decide +kernel
theorem dX12_begin_0 : decode cX12_begin 0 = .ok (.aload_n 0, 1) := by decide +kernel
theorem dX12_begin_1 : decode cX12_begin 1 = .ok (.iconst 0, 1) := by decide +kernel
theorem dX12_begin_2 : decode cX12_begin 2 = .ok (.putfield 22, 3) := by decide +kernel
theorem dX12_begin_5 : decode cX12_begin 5 = .ok (.aload_n 0, 1) := by decide +kernel
theorem dX12_begin_6 : decode cX12_begin 6 = .ok (.getfield 7, 3) := by decide +kernel
theorem dX12_begin_9 : decode cX12_begin 9 = .ok (.iconst 0, 1) := by decide +kernel
theorem dX12_begin_10 : decode cX12_begin 10 = .ok (.aload_n 0, 1) := by decide +kernel
theorem dX12_begin_11 : decode cX12_begin 11 = .ok (.getfield 13, 3) := by decide +kernel
theorem dX12_begin_14 : decode cX12_begin 14 = .ok (.iconst 0, 1) := by decide +kernel
theorem dX12_begin_15 : decode cX12_begin 15 = .ok (.invokestatic 72, 3) := by decide +kernel
theorem dX12_begin_18 : decode cX12_begin 18 = .ok (.return_, 1) := by decide +kernel
theorem dX12_commit_0 : decode cX12_commit 0 = .ok (.aload_n 0, 1) := by decide +kernel
theorem dX12_commit_1 : decode cX12_commit 1 = .ok (.getfield 26, 3) := by decide +kernel
theorem dX12_commit_4 : decode cX12_commit 4 = .ok (.bipush 8, 2) := by decide +kernel
theorem dX12_commit_6 : decode cX12_commit 6 = .ok (.if_icmp .ne 50, 3) := by decide +kernel
theorem dX12_commit_9 : decode cX12_commit 9 = .ok (.iconst 1, 1) := by decide +kernel
theorem dX12_commit_10 : decode cX12_commit 10 = .ok (.istore_n 2, 1) := by decide +kernel
theorem dX12_commit_11 : decode cX12_commit 11 = .ok (.iload_n 2, 1) := by decide +kernel
theorem dX12_commit_12 : decode cX12_commit 12 = .ok (.bipush 8, 2) := by decide +kernel
theorem dX12_commit_14 : decode cX12_commit 14 = .ok (.if_icmp .ge 32, 3) := by decide +kernel
theorem dX12_commit_17 : decode cX12_commit 17 = .ok (.aload_n 0, 1) := by decide +kernel
theorem dX12_commit_18 : decode cX12_commit 18 = .ok (.getfield 19, 3) := by decide +kernel
theorem dX12_commit_21 : decode cX12_commit 21 = .ok (.sipush 160, 3) := by decide +kernel
theorem dX12_commit_24 : decode cX12_commit 24 = .ok (.iload_n 2, 1) := by decide +kernel
theorem dX12_commit_25 : decode cX12_commit 25 = .ok (.imul, 1) := by decide +kernel
theorem dX12_commit_26 : decode cX12_commit 26 = .ok (.aload_n 0, 1) := by decide +kernel
theorem dX12_commit_27 : decode cX12_commit 27 = .ok (.getfield 19, 3) := by decide +kernel
theorem dX12_commit_30 : decode cX12_commit 30 = .ok (.sipush 160, 3) := by decide +kernel
theorem dX12_commit_33 : decode cX12_commit 33 = .ok (.iload_n 2, 1) := by decide +kernel
theorem dX12_commit_34 : decode cX12_commit 34 = .ok (.iconst 1, 1) := by decide +kernel
theorem dX12_commit_35 : decode cX12_commit 35 = .ok (.isub, 1) := by decide +kernel
theorem dX12_commit_36 : decode cX12_commit 36 = .ok (.imul, 1) := by decide +kernel
theorem dX12_commit_37 : decode cX12_commit 37 = .ok (.invokestatic 72, 3) := by decide +kernel
theorem dX12_commit_40 : decode cX12_commit 40 = .ok (.iinc 2 1, 3) := by decide +kernel
theorem dX12_commit_43 : decode cX12_commit 43 = .ok (.goto (-32), 3) := by decide +kernel
theorem dX12_commit_46 : decode cX12_commit 46 = .ok (.aload_n 0, 1) := by decide +kernel
theorem dX12_commit_47 : decode cX12_commit 47 = .ok (.dup, 1) := by decide +kernel
theorem dX12_commit_48 : decode cX12_commit 48 = .ok (.getfield 26, 3) := by decide +kernel
theorem dX12_commit_51 : decode cX12_commit 51 = .ok (.iconst 1, 1) := by decide +kernel
theorem dX12_commit_52 : decode cX12_commit 52 = .ok (.isub, 1) := by decide +kernel
theorem dX12_commit_53 : decode cX12_commit 53 = .ok (.putfield 26, 3) := by decide +kernel
theorem dX12_commit_56 : decode cX12_commit 56 = .ok (.aload_n 0, 1) := by decide +kernel
theorem dX12_commit_57 : decode cX12_commit 57 = .ok (.getfield 13, 3) := by decide +kernel
theorem dX12_commit_60 : decode cX12_commit 60 = .ok (.iconst 0, 1) := by decide +kernel
theorem dX12_commit_61 : decode cX12_commit 61 = .ok (.aload_n 0, 1) := by decide +kernel
theorem dX12_commit_62 : decode cX12_commit 62 = .ok (.getfield 19, 3) := by decide +kernel
theorem dX12_commit_65 : decode cX12_commit 65 = .ok (.sipush 160, 3) := by decide +kernel
theorem dX12_commit_68 : decode cX12_commit 68 = .ok (.aload_n 0, 1) := by decide +kernel
theorem dX12_commit_69 : decode cX12_commit 69 = .ok (.getfield 26, 3) := by decide +kernel
theorem dX12_commit_72 : decode cX12_commit 72 = .ok (.imul, 1) := by decide +kernel
theorem dX12_commit_73 : decode cX12_commit 73 = .ok (.invokestatic 72, 3) := by decide +kernel
theorem dX12_commit_76 : decode cX12_commit 76 = .ok (.aload_n 0, 1) := by decide +kernel
theorem dX12_commit_77 : decode cX12_commit 77 = .ok (.dup, 1) := by decide +kernel
theorem dX12_commit_78 : decode cX12_commit 78 = .ok (.getfield 26, 3) := by decide +kernel
theorem dX12_commit_81 : decode cX12_commit 81 = .ok (.iconst 1, 1) := by decide +kernel
theorem dX12_commit_82 : decode cX12_commit 82 = .ok (.iadd, 1) := by decide +kernel
theorem dX12_commit_83 : decode cX12_commit 83 = .ok (.putfield 26, 3) := by decide +kernel
theorem dX12_commit_86 : decode cX12_commit 86 = .ok (.iload_n 1, 1) := by decide +kernel
theorem dX12_commit_87 : decode cX12_commit 87 = .ok (.ireturn, 1) := by decide +kernel
theorem dX12_t_0 : decode cX12_t 0 = .ok (.aload_n 0, 1) := by decide +kernel
theorem dX12_t_1 : decode cX12_t 1 = .ok (.getfield 7, 3) := by decide +kernel
theorem dX12_t_4 : decode cX12_t 4 = .ok (.bipush 8, 2) := by decide +kernel
theorem dX12_t_6 : decode cX12_t 6 = .ok (.bipush 12, 2) := by decide +kernel
theorem dX12_t_8 : decode cX12_t 8 = .ok (.iload_n 1, 1) := by decide +kernel
theorem dX12_t_9 : decode cX12_t 9 = .ok (.imul, 1) := by decide +kernel
theorem dX12_t_10 : decode cX12_t 10 = .ok (.iadd, 1) := by decide +kernel
theorem dX12_t_11 : decode cX12_t 11 = .ok (.iload_n 2, 1) := by decide +kernel
theorem dX12_t_12 : decode cX12_t 12 = .ok (.iadd, 1) := by decide +kernel
theorem dX12_t_13 : decode cX12_t 13 = .ok (.iaload, 1) := by decide +kernel
theorem dX12_t_14 : decode cX12_t 14 = .ok (.ireturn, 1) := by decide +kernel
theorem dX12_set_0 : decode cX12_set 0 = .ok (.aload_n 0, 1) := by decide +kernel
theorem dX12_set_1 : decode cX12_set 1 = .ok (.getfield 7, 3) := by decide +kernel
theorem dX12_set_4 : decode cX12_set 4 = .ok (.bipush 8, 2) := by decide +kernel
theorem dX12_set_6 : decode cX12_set 6 = .ok (.bipush 12, 2) := by decide +kernel
theorem dX12_set_8 : decode cX12_set 8 = .ok (.iload_n 1, 1) := by decide +kernel
theorem dX12_set_9 : decode cX12_set 9 = .ok (.imul, 1) := by decide +kernel
theorem dX12_set_10 : decode cX12_set 10 = .ok (.iadd, 1) := by decide +kernel
theorem dX12_set_11 : decode cX12_set 11 = .ok (.iload_n 2, 1) := by decide +kernel
theorem dX12_set_12 : decode cX12_set 12 = .ok (.iadd, 1) := by decide +kernel
theorem dX12_set_13 : decode cX12_set 13 = .ok (.iload_n 3, 1) := by decide +kernel
theorem dX12_set_14 : decode cX12_set 14 = .ok (.iastore, 1) := by decide +kernel
theorem dX12_set_15 : decode cX12_set 15 = .ok (.return_, 1) := by decide +kernel
theorem dX12_isStation_0 : decode cX12_isStation 0 = .ok (.iload_n 1, 1) := by decide +kernel
theorem dX12_isStation_1 : decode cX12_isStation 1 = .ok (.iconst 0, 1) := by decide +kernel
theorem dX12_isStation_2 : decode cX12_isStation 2 = .ok (.aload_n 0, 1) := by decide +kernel
theorem dX12_isStation_3 : decode cX12_isStation 3 = .ok (.getfield 7, 3) := by decide +kernel
theorem dX12_isStation_6 : decode cX12_isStation 6 = .ok (.iconst 0, 1) := by decide +kernel
theorem dX12_isStation_7 : decode cX12_isStation 7 = .ok (.iaload, 1) := by decide +kernel
theorem dX12_isStation_8 : decode cX12_isStation 8 = .ok (.iconst 1, 1) := by decide +kernel
theorem dX12_isStation_9 : decode cX12_isStation 9 = .ok (.isub, 1) := by decide +kernel
theorem dX12_isStation_10 : decode cX12_isStation 10 = .ok (.invokestatic 76, 3) := by decide +kernel
theorem dX12_isStation_13 : decode cX12_isStation 13 = .ok (.ireturn, 1) := by decide +kernel
theorem dX12_isChannel_0 : decode cX12_isChannel 0 = .ok (.iload_n 0, 1) := by decide +kernel
theorem dX12_isChannel_1 : decode cX12_isChannel 1 = .ok (.iconst 0, 1) := by decide +kernel
theorem dX12_isChannel_2 : decode cX12_isChannel 2 = .ok (.bipush 9, 2) := by decide +kernel
theorem dX12_isChannel_4 : decode cX12_isChannel 4 = .ok (.invokestatic 76, 3) := by decide +kernel
theorem dX12_isChannel_7 : decode cX12_isChannel 7 = .ok (.ireturn, 1) := by decide +kernel
theorem dX12_isPlace_0 : decode cX12_isPlace 0 = .ok (.iload_n 0, 1) := by decide +kernel
theorem dX12_isPlace_1 : decode cX12_isPlace 1 = .ok (.iconst 0, 1) := by decide +kernel
theorem dX12_isPlace_2 : decode cX12_isPlace 2 = .ok (.bipush 99, 2) := by decide +kernel
theorem dX12_isPlace_4 : decode cX12_isPlace 4 = .ok (.invokestatic 76, 3) := by decide +kernel
theorem dX12_isPlace_7 : decode cX12_isPlace 7 = .ok (.ifCond .eq 17, 3) := by decide +kernel
theorem dX12_isPlace_10 : decode cX12_isPlace 10 = .ok (.iload_n 1, 1) := by decide +kernel
theorem dX12_isPlace_11 : decode cX12_isPlace 11 = .ok (.iconst 0, 1) := by decide +kernel
theorem dX12_isPlace_12 : decode cX12_isPlace 12 = .ok (.bipush 99, 2) := by decide +kernel
theorem dX12_isPlace_14 : decode cX12_isPlace 14 = .ok (.invokestatic 76, 3) := by decide +kernel
theorem dX12_isPlace_17 : decode cX12_isPlace 17 = .ok (.ifCond .eq 7, 3) := by decide +kernel
theorem dX12_isPlace_20 : decode cX12_isPlace 20 = .ok (.iconst 1, 1) := by decide +kernel
theorem dX12_isPlace_21 : decode cX12_isPlace 21 = .ok (.goto 4, 3) := by decide +kernel
theorem dX12_isPlace_24 : decode cX12_isPlace 24 = .ok (.iconst 0, 1) := by decide +kernel
theorem dX12_isPlace_25 : decode cX12_isPlace 25 = .ok (.ireturn, 1) := by decide +kernel
theorem dX12_signed_0 : decode cX12_signed 0 = .ok (.iconst 0, 1) := by decide +kernel
theorem dX12_signed_1 : decode cX12_signed 1 = .ok (.istore_n 3, 1) := by decide +kernel
theorem dX12_signed_2 : decode cX12_signed 2 = .ok (.iload_n 3, 1) := by decide +kernel
theorem dX12_signed_3 : decode cX12_signed 3 = .ok (.aload_n 0, 1) := by decide +kernel
theorem dX12_signed_4 : decode cX12_signed 4 = .ok (.getfield 7, 3) := by decide +kernel
theorem dX12_signed_7 : decode cX12_signed 7 = .ok (.iconst 0, 1) := by decide +kernel
theorem dX12_signed_8 : decode cX12_signed 8 = .ok (.iaload, 1) := by decide +kernel
theorem dX12_signed_9 : decode cX12_signed 9 = .ok (.if_icmp .ge 31, 3) := by decide +kernel
theorem dX12_signed_12 : decode cX12_signed 12 = .ok (.aload_n 0, 1) := by decide +kernel
theorem dX12_signed_13 : decode cX12_signed 13 = .ok (.iload_n 3, 1) := by decide +kernel
theorem dX12_signed_14 : decode cX12_signed 14 = .ok (.iconst 0, 1) := by decide +kernel
theorem dX12_signed_15 : decode cX12_signed 15 = .ok (.invokevirtual 80, 3) := by decide +kernel
theorem dX12_signed_18 : decode cX12_signed 18 = .ok (.iload_n 1, 1) := by decide +kernel
theorem dX12_signed_19 : decode cX12_signed 19 = .ok (.if_icmp .ne 15, 3) := by decide +kernel
theorem dX12_signed_22 : decode cX12_signed 22 = .ok (.aload_n 0, 1) := by decide +kernel
theorem dX12_signed_23 : decode cX12_signed 23 = .ok (.iload_n 3, 1) := by decide +kernel
theorem dX12_signed_24 : decode cX12_signed 24 = .ok (.iconst 1, 1) := by decide +kernel
theorem dX12_signed_25 : decode cX12_signed 25 = .ok (.invokevirtual 80, 3) := by decide +kernel
theorem dX12_signed_28 : decode cX12_signed 28 = .ok (.iload_n 2, 1) := by decide +kernel
theorem dX12_signed_29 : decode cX12_signed 29 = .ok (.if_icmp .ne 5, 3) := by decide +kernel
theorem dX12_signed_32 : decode cX12_signed 32 = .ok (.iload_n 3, 1) := by decide +kernel
theorem dX12_signed_33 : decode cX12_signed 33 = .ok (.ireturn, 1) := by decide +kernel
theorem dX12_signed_34 : decode cX12_signed 34 = .ok (.iinc 3 1, 3) := by decide +kernel
theorem dX12_signed_37 : decode cX12_signed 37 = .ok (.goto (-35), 3) := by decide +kernel
theorem dX12_signed_40 : decode cX12_signed 40 = .ok (.iconst (-1), 1) := by decide +kernel
theorem dX12_signed_41 : decode cX12_signed 41 = .ok (.ireturn, 1) := by decide +kernel
theorem dX12_squared_0 : decode cX12_squared 0 = .ok (.aload_n 0, 1) := by decide +kernel
theorem dX12_squared_1 : decode cX12_squared 1 = .ok (.iload_n 1, 1) := by decide +kernel
theorem dX12_squared_2 : decode cX12_squared 2 = .ok (.iconst 2, 1) := by decide +kernel
theorem dX12_squared_3 : decode cX12_squared 3 = .ok (.invokevirtual 80, 3) := by decide +kernel
theorem dX12_squared_6 : decode cX12_squared 6 = .ok (.aload_n 0, 1) := by decide +kernel
theorem dX12_squared_7 : decode cX12_squared 7 = .ok (.iload_n 2, 1) := by decide +kernel
theorem dX12_squared_8 : decode cX12_squared 8 = .ok (.iconst 2, 1) := by decide +kernel
theorem dX12_squared_9 : decode cX12_squared 9 = .ok (.invokevirtual 80, 3) := by decide +kernel
theorem dX12_squared_12 : decode cX12_squared 12 = .ok (.isub, 1) := by decide +kernel
theorem dX12_squared_13 : decode cX12_squared 13 = .ok (.istore_n 3, 1) := by decide +kernel
theorem dX12_squared_14 : decode cX12_squared 14 = .ok (.aload_n 0, 1) := by decide +kernel
theorem dX12_squared_15 : decode cX12_squared 15 = .ok (.iload_n 1, 1) := by decide +kernel
theorem dX12_squared_16 : decode cX12_squared 16 = .ok (.iconst 3, 1) := by decide +kernel
theorem dX12_squared_17 : decode cX12_squared 17 = .ok (.invokevirtual 80, 3) := by decide +kernel
theorem dX12_squared_20 : decode cX12_squared 20 = .ok (.aload_n 0, 1) := by decide +kernel
theorem dX12_squared_21 : decode cX12_squared 21 = .ok (.iload_n 2, 1) := by decide +kernel
theorem dX12_squared_22 : decode cX12_squared 22 = .ok (.iconst 3, 1) := by decide +kernel
theorem dX12_squared_23 : decode cX12_squared 23 = .ok (.invokevirtual 80, 3) := by decide +kernel
theorem dX12_squared_26 : decode cX12_squared 26 = .ok (.isub, 1) := by decide +kernel
theorem dX12_squared_27 : decode cX12_squared 27 = .ok (.istore 4, 2) := by decide +kernel
theorem dX12_squared_29 : decode cX12_squared 29 = .ok (.iload_n 3, 1) := by decide +kernel
theorem dX12_squared_30 : decode cX12_squared 30 = .ok (.iload_n 3, 1) := by decide +kernel
theorem dX12_squared_31 : decode cX12_squared 31 = .ok (.imul, 1) := by decide +kernel
theorem dX12_squared_32 : decode cX12_squared 32 = .ok (.iload 4, 2) := by decide +kernel
theorem dX12_squared_34 : decode cX12_squared 34 = .ok (.iload 4, 2) := by decide +kernel
theorem dX12_squared_36 : decode cX12_squared 36 = .ok (.imul, 1) := by decide +kernel
theorem dX12_squared_37 : decode cX12_squared 37 = .ok (.iadd, 1) := by decide +kernel
theorem dX12_squared_38 : decode cX12_squared 38 = .ok (.ireturn, 1) := by decide +kernel
theorem dX12_hears_0 : decode cX12_hears 0 = .ok (.iload_n 1, 1) := by decide +kernel
theorem dX12_hears_1 : decode cX12_hears 1 = .ok (.iload_n 2, 1) := by decide +kernel
theorem dX12_hears_2 : decode cX12_hears 2 = .ok (.if_icmp .eq 44, 3) := by decide +kernel
theorem dX12_hears_5 : decode cX12_hears 5 = .ok (.aload_n 0, 1) := by decide +kernel
theorem dX12_hears_6 : decode cX12_hears 6 = .ok (.iload_n 1, 1) := by decide +kernel
theorem dX12_hears_7 : decode cX12_hears 7 = .ok (.iconst 5, 1) := by decide +kernel
theorem dX12_hears_8 : decode cX12_hears 8 = .ok (.invokevirtual 80, 3) := by decide +kernel
theorem dX12_hears_11 : decode cX12_hears 11 = .ok (.aload_n 0, 1) := by decide +kernel
theorem dX12_hears_12 : decode cX12_hears 12 = .ok (.iload_n 2, 1) := by decide +kernel
theorem dX12_hears_13 : decode cX12_hears 13 = .ok (.iconst 5, 1) := by decide +kernel
theorem dX12_hears_14 : decode cX12_hears 14 = .ok (.invokevirtual 80, 3) := by decide +kernel
theorem dX12_hears_17 : decode cX12_hears 17 = .ok (.if_icmp .ne 29, 3) := by decide +kernel
theorem dX12_hears_20 : decode cX12_hears 20 = .ok (.aload_n 0, 1) := by decide +kernel
theorem dX12_hears_21 : decode cX12_hears 21 = .ok (.iload_n 1, 1) := by decide +kernel
theorem dX12_hears_22 : decode cX12_hears 22 = .ok (.iload_n 2, 1) := by decide +kernel
theorem dX12_hears_23 : decode cX12_hears 23 = .ok (.invokevirtual 84, 3) := by decide +kernel
theorem dX12_hears_26 : decode cX12_hears 26 = .ok (.aload_n 0, 1) := by decide +kernel
theorem dX12_hears_27 : decode cX12_hears 27 = .ok (.iload_n 2, 1) := by decide +kernel
theorem dX12_hears_28 : decode cX12_hears 28 = .ok (.iconst 4, 1) := by decide +kernel
theorem dX12_hears_29 : decode cX12_hears 29 = .ok (.invokevirtual 80, 3) := by decide +kernel
theorem dX12_hears_32 : decode cX12_hears 32 = .ok (.aload_n 0, 1) := by decide +kernel
theorem dX12_hears_33 : decode cX12_hears 33 = .ok (.iload_n 2, 1) := by decide +kernel
theorem dX12_hears_34 : decode cX12_hears 34 = .ok (.iconst 4, 1) := by decide +kernel
theorem dX12_hears_35 : decode cX12_hears 35 = .ok (.invokevirtual 80, 3) := by decide +kernel
theorem dX12_hears_38 : decode cX12_hears 38 = .ok (.imul, 1) := by decide +kernel
theorem dX12_hears_39 : decode cX12_hears 39 = .ok (.if_icmp .gt 7, 3) := by decide +kernel
theorem dX12_hears_42 : decode cX12_hears 42 = .ok (.iconst 1, 1) := by decide +kernel
theorem dX12_hears_43 : decode cX12_hears 43 = .ok (.goto 4, 3) := by decide +kernel
theorem dX12_hears_46 : decode cX12_hears 46 = .ok (.iconst 0, 1) := by decide +kernel
theorem dX12_hears_47 : decode cX12_hears 47 = .ok (.ireturn, 1) := by decide +kernel
theorem dX12_disturbs_0 : decode cX12_disturbs 0 = .ok (.aload_n 0, 1) := by decide +kernel
theorem dX12_disturbs_1 : decode cX12_disturbs 1 = .ok (.iload_n 1, 1) := by decide +kernel
theorem dX12_disturbs_2 : decode cX12_disturbs 2 = .ok (.iconst 5, 1) := by decide +kernel
theorem dX12_disturbs_3 : decode cX12_disturbs 3 = .ok (.invokevirtual 80, 3) := by decide +kernel
theorem dX12_disturbs_6 : decode cX12_disturbs 6 = .ok (.aload_n 0, 1) := by decide +kernel
theorem dX12_disturbs_7 : decode cX12_disturbs 7 = .ok (.iload_n 2, 1) := by decide +kernel
theorem dX12_disturbs_8 : decode cX12_disturbs 8 = .ok (.iconst 5, 1) := by decide +kernel
theorem dX12_disturbs_9 : decode cX12_disturbs 9 = .ok (.invokevirtual 80, 3) := by decide +kernel
theorem dX12_disturbs_12 : decode cX12_disturbs 12 = .ok (.isub, 1) := by decide +kernel
theorem dX12_disturbs_13 : decode cX12_disturbs 13 = .ok (.istore_n 3, 1) := by decide +kernel
theorem dX12_disturbs_14 : decode cX12_disturbs 14 = .ok (.aload_n 0, 1) := by decide +kernel
theorem dX12_disturbs_15 : decode cX12_disturbs 15 = .ok (.iload_n 1, 1) := by decide +kernel
theorem dX12_disturbs_16 : decode cX12_disturbs 16 = .ok (.bipush 6, 2) := by decide +kernel
theorem dX12_disturbs_18 : decode cX12_disturbs 18 = .ok (.invokevirtual 80, 3) := by decide +kernel
theorem dX12_disturbs_21 : decode cX12_disturbs 21 = .ok (.iconst 1, 1) := by decide +kernel
theorem dX12_disturbs_22 : decode cX12_disturbs 22 = .ok (.if_icmp .ne 41, 3) := by decide +kernel
theorem dX12_disturbs_25 : decode cX12_disturbs 25 = .ok (.iload_n 3, 1) := by decide +kernel
theorem dX12_disturbs_26 : decode cX12_disturbs 26 = .ok (.iconst 1, 1) := by decide +kernel
theorem dX12_disturbs_27 : decode cX12_disturbs 27 = .ok (.if_icmp .eq 8, 3) := by decide +kernel
theorem dX12_disturbs_30 : decode cX12_disturbs 30 = .ok (.iload_n 3, 1) := by decide +kernel
theorem dX12_disturbs_31 : decode cX12_disturbs 31 = .ok (.iconst (-1), 1) := by decide +kernel
theorem dX12_disturbs_32 : decode cX12_disturbs 32 = .ok (.if_icmp .ne 31, 3) := by decide +kernel
theorem dX12_disturbs_35 : decode cX12_disturbs 35 = .ok (.iconst 4, 1) := by decide +kernel
theorem dX12_disturbs_36 : decode cX12_disturbs 36 = .ok (.aload_n 0, 1) := by decide +kernel
theorem dX12_disturbs_37 : decode cX12_disturbs 37 = .ok (.iload_n 1, 1) := by decide +kernel
theorem dX12_disturbs_38 : decode cX12_disturbs 38 = .ok (.iload_n 2, 1) := by decide +kernel
theorem dX12_disturbs_39 : decode cX12_disturbs 39 = .ok (.invokevirtual 84, 3) := by decide +kernel
theorem dX12_disturbs_42 : decode cX12_disturbs 42 = .ok (.imul, 1) := by decide +kernel
theorem dX12_disturbs_43 : decode cX12_disturbs 43 = .ok (.aload_n 0, 1) := by decide +kernel
theorem dX12_disturbs_44 : decode cX12_disturbs 44 = .ok (.iload_n 1, 1) := by decide +kernel
theorem dX12_disturbs_45 : decode cX12_disturbs 45 = .ok (.iconst 4, 1) := by decide +kernel
theorem dX12_disturbs_46 : decode cX12_disturbs 46 = .ok (.invokevirtual 80, 3) := by decide +kernel
theorem dX12_disturbs_49 : decode cX12_disturbs 49 = .ok (.aload_n 0, 1) := by decide +kernel
theorem dX12_disturbs_50 : decode cX12_disturbs 50 = .ok (.iload_n 1, 1) := by decide +kernel
theorem dX12_disturbs_51 : decode cX12_disturbs 51 = .ok (.iconst 4, 1) := by decide +kernel
theorem dX12_disturbs_52 : decode cX12_disturbs 52 = .ok (.invokevirtual 80, 3) := by decide +kernel
theorem dX12_disturbs_55 : decode cX12_disturbs 55 = .ok (.imul, 1) := by decide +kernel
theorem dX12_disturbs_56 : decode cX12_disturbs 56 = .ok (.if_icmp .gt 7, 3) := by decide +kernel
theorem dX12_disturbs_59 : decode cX12_disturbs 59 = .ok (.iconst 1, 1) := by decide +kernel
theorem dX12_disturbs_60 : decode cX12_disturbs 60 = .ok (.goto 4, 3) := by decide +kernel
theorem dX12_disturbs_63 : decode cX12_disturbs 63 = .ok (.iconst 0, 1) := by decide +kernel
theorem dX12_disturbs_64 : decode cX12_disturbs 64 = .ok (.ireturn, 1) := by decide +kernel
theorem dX12_isDisturbed_0 : decode cX12_isDisturbed 0 = .ok (.iconst 0, 1) := by decide +kernel
theorem dX12_isDisturbed_1 : decode cX12_isDisturbed 1 = .ok (.istore_n 2, 1) := by decide +kernel
theorem dX12_isDisturbed_2 : decode cX12_isDisturbed 2 = .ok (.iload_n 2, 1) := by decide +kernel
theorem dX12_isDisturbed_3 : decode cX12_isDisturbed 3 = .ok (.aload_n 0, 1) := by decide +kernel
theorem dX12_isDisturbed_4 : decode cX12_isDisturbed 4 = .ok (.getfield 7, 3) := by decide +kernel
theorem dX12_isDisturbed_7 : decode cX12_isDisturbed 7 = .ok (.iconst 0, 1) := by decide +kernel
theorem dX12_isDisturbed_8 : decode cX12_isDisturbed 8 = .ok (.iaload, 1) := by decide +kernel
theorem dX12_isDisturbed_9 : decode cX12_isDisturbed 9 = .ok (.if_icmp .ge 20, 3) := by decide +kernel
theorem dX12_isDisturbed_12 : decode cX12_isDisturbed 12 = .ok (.aload_n 0, 1) := by decide +kernel
theorem dX12_isDisturbed_13 : decode cX12_isDisturbed 13 = .ok (.iload_n 2, 1) := by decide +kernel
theorem dX12_isDisturbed_14 : decode cX12_isDisturbed 14 = .ok (.iload_n 1, 1) := by decide +kernel
theorem dX12_isDisturbed_15 : decode cX12_isDisturbed 15 = .ok (.invokevirtual 87, 3) := by decide +kernel
theorem dX12_isDisturbed_18 : decode cX12_isDisturbed 18 = .ok (.ifCond .eq 5, 3) := by decide +kernel
theorem dX12_isDisturbed_21 : decode cX12_isDisturbed 21 = .ok (.iconst 1, 1) := by decide +kernel
theorem dX12_isDisturbed_22 : decode cX12_isDisturbed 22 = .ok (.ireturn, 1) := by decide +kernel
theorem dX12_isDisturbed_23 : decode cX12_isDisturbed 23 = .ok (.iinc 2 1, 3) := by decide +kernel
theorem dX12_isDisturbed_26 : decode cX12_isDisturbed 26 = .ok (.goto (-24), 3) := by decide +kernel
theorem dX12_isDisturbed_29 : decode cX12_isDisturbed 29 = .ok (.iconst 0, 1) := by decide +kernel
theorem dX12_isDisturbed_30 : decode cX12_isDisturbed 30 = .ok (.ireturn, 1) := by decide +kernel
theorem dX12_speakerOn_0 : decode cX12_speakerOn 0 = .ok (.iconst 0, 1) := by decide +kernel
theorem dX12_speakerOn_1 : decode cX12_speakerOn 1 = .ok (.istore_n 2, 1) := by decide +kernel
theorem dX12_speakerOn_2 : decode cX12_speakerOn 2 = .ok (.iload_n 2, 1) := by decide +kernel
theorem dX12_speakerOn_3 : decode cX12_speakerOn 3 = .ok (.aload_n 0, 1) := by decide +kernel
theorem dX12_speakerOn_4 : decode cX12_speakerOn 4 = .ok (.getfield 7, 3) := by decide +kernel
theorem dX12_speakerOn_7 : decode cX12_speakerOn 7 = .ok (.iconst 0, 1) := by decide +kernel
theorem dX12_speakerOn_8 : decode cX12_speakerOn 8 = .ok (.iaload, 1) := by decide +kernel
theorem dX12_speakerOn_9 : decode cX12_speakerOn 9 = .ok (.if_icmp .ge 32, 3) := by decide +kernel
theorem dX12_speakerOn_12 : decode cX12_speakerOn 12 = .ok (.aload_n 0, 1) := by decide +kernel
theorem dX12_speakerOn_13 : decode cX12_speakerOn 13 = .ok (.iload_n 2, 1) := by decide +kernel
theorem dX12_speakerOn_14 : decode cX12_speakerOn 14 = .ok (.bipush 6, 2) := by decide +kernel
theorem dX12_speakerOn_16 : decode cX12_speakerOn 16 = .ok (.invokevirtual 80, 3) := by decide +kernel
theorem dX12_speakerOn_19 : decode cX12_speakerOn 19 = .ok (.iconst 1, 1) := by decide +kernel
theorem dX12_speakerOn_20 : decode cX12_speakerOn 20 = .ok (.if_icmp .ne 15, 3) := by decide +kernel
theorem dX12_speakerOn_23 : decode cX12_speakerOn 23 = .ok (.aload_n 0, 1) := by decide +kernel
theorem dX12_speakerOn_24 : decode cX12_speakerOn 24 = .ok (.iload_n 2, 1) := by decide +kernel
theorem dX12_speakerOn_25 : decode cX12_speakerOn 25 = .ok (.iconst 5, 1) := by decide +kernel
theorem dX12_speakerOn_26 : decode cX12_speakerOn 26 = .ok (.invokevirtual 80, 3) := by decide +kernel
theorem dX12_speakerOn_29 : decode cX12_speakerOn 29 = .ok (.iload_n 1, 1) := by decide +kernel
theorem dX12_speakerOn_30 : decode cX12_speakerOn 30 = .ok (.if_icmp .ne 5, 3) := by decide +kernel
theorem dX12_speakerOn_33 : decode cX12_speakerOn 33 = .ok (.iload_n 2, 1) := by decide +kernel
theorem dX12_speakerOn_34 : decode cX12_speakerOn 34 = .ok (.ireturn, 1) := by decide +kernel
theorem dX12_speakerOn_35 : decode cX12_speakerOn 35 = .ok (.iinc 2 1, 3) := by decide +kernel
theorem dX12_speakerOn_38 : decode cX12_speakerOn 38 = .ok (.goto (-36), 3) := by decide +kernel
theorem dX12_speakerOn_41 : decode cX12_speakerOn 41 = .ok (.iconst (-1), 1) := by decide +kernel
theorem dX12_speakerOn_42 : decode cX12_speakerOn 42 = .ok (.ireturn, 1) := by decide +kernel
theorem dX12_waitsOn_0 : decode cX12_waitsOn 0 = .ok (.aload_n 0, 1) := by decide +kernel
theorem dX12_waitsOn_1 : decode cX12_waitsOn 1 = .ok (.iload_n 1, 1) := by decide +kernel
theorem dX12_waitsOn_2 : decode cX12_waitsOn 2 = .ok (.bipush 6, 2) := by decide +kernel
theorem dX12_waitsOn_4 : decode cX12_waitsOn 4 = .ok (.invokevirtual 80, 3) := by decide +kernel
theorem dX12_waitsOn_7 : decode cX12_waitsOn 7 = .ok (.iconst 2, 1) := by decide +kernel
theorem dX12_waitsOn_8 : decode cX12_waitsOn 8 = .ok (.if_icmp .ne 17, 3) := by decide +kernel
theorem dX12_waitsOn_11 : decode cX12_waitsOn 11 = .ok (.aload_n 0, 1) := by decide +kernel
theorem dX12_waitsOn_12 : decode cX12_waitsOn 12 = .ok (.iload_n 1, 1) := by decide +kernel
theorem dX12_waitsOn_13 : decode cX12_waitsOn 13 = .ok (.iconst 5, 1) := by decide +kernel
theorem dX12_waitsOn_14 : decode cX12_waitsOn 14 = .ok (.invokevirtual 80, 3) := by decide +kernel
theorem dX12_waitsOn_17 : decode cX12_waitsOn 17 = .ok (.iload_n 2, 1) := by decide +kernel
theorem dX12_waitsOn_18 : decode cX12_waitsOn 18 = .ok (.if_icmp .ne 7, 3) := by decide +kernel
theorem dX12_waitsOn_21 : decode cX12_waitsOn 21 = .ok (.iconst 1, 1) := by decide +kernel
theorem dX12_waitsOn_22 : decode cX12_waitsOn 22 = .ok (.goto 4, 3) := by decide +kernel
theorem dX12_waitsOn_25 : decode cX12_waitsOn 25 = .ok (.iconst 0, 1) := by decide +kernel
theorem dX12_waitsOn_26 : decode cX12_waitsOn 26 = .ok (.ireturn, 1) := by decide +kernel
theorem dX12_lineOf_0 : decode cX12_lineOf 0 = .ok (.iconst 0, 1) := by decide +kernel
theorem dX12_lineOf_1 : decode cX12_lineOf 1 = .ok (.istore_n 2, 1) := by decide +kernel
theorem dX12_lineOf_2 : decode cX12_lineOf 2 = .ok (.iconst 0, 1) := by decide +kernel
theorem dX12_lineOf_3 : decode cX12_lineOf 3 = .ok (.istore_n 3, 1) := by decide +kernel
theorem dX12_lineOf_4 : decode cX12_lineOf 4 = .ok (.iload_n 3, 1) := by decide +kernel
theorem dX12_lineOf_5 : decode cX12_lineOf 5 = .ok (.aload_n 0, 1) := by decide +kernel
theorem dX12_lineOf_6 : decode cX12_lineOf 6 = .ok (.getfield 7, 3) := by decide +kernel
theorem dX12_lineOf_9 : decode cX12_lineOf 9 = .ok (.iconst 0, 1) := by decide +kernel
theorem dX12_lineOf_10 : decode cX12_lineOf 10 = .ok (.iaload, 1) := by decide +kernel
theorem dX12_lineOf_11 : decode cX12_lineOf 11 = .ok (.if_icmp .ge 26, 3) := by decide +kernel
theorem dX12_lineOf_14 : decode cX12_lineOf 14 = .ok (.iload_n 2, 1) := by decide +kernel
theorem dX12_lineOf_15 : decode cX12_lineOf 15 = .ok (.aload_n 0, 1) := by decide +kernel
theorem dX12_lineOf_16 : decode cX12_lineOf 16 = .ok (.iload_n 3, 1) := by decide +kernel
theorem dX12_lineOf_17 : decode cX12_lineOf 17 = .ok (.iload_n 1, 1) := by decide +kernel
theorem dX12_lineOf_18 : decode cX12_lineOf 18 = .ok (.invokevirtual 91, 3) := by decide +kernel
theorem dX12_lineOf_21 : decode cX12_lineOf 21 = .ok (.ifCond .eq 7, 3) := by decide +kernel
theorem dX12_lineOf_24 : decode cX12_lineOf 24 = .ok (.iconst 1, 1) := by decide +kernel
theorem dX12_lineOf_25 : decode cX12_lineOf 25 = .ok (.goto 4, 3) := by decide +kernel
theorem dX12_lineOf_28 : decode cX12_lineOf 28 = .ok (.iconst 0, 1) := by decide +kernel
theorem dX12_lineOf_29 : decode cX12_lineOf 29 = .ok (.iadd, 1) := by decide +kernel
theorem dX12_lineOf_30 : decode cX12_lineOf 30 = .ok (.istore_n 2, 1) := by decide +kernel
theorem dX12_lineOf_31 : decode cX12_lineOf 31 = .ok (.iinc 3 1, 3) := by decide +kernel
theorem dX12_lineOf_34 : decode cX12_lineOf 34 = .ok (.goto (-30), 3) := by decide +kernel
theorem dX12_lineOf_37 : decode cX12_lineOf 37 = .ok (.iload_n 2, 1) := by decide +kernel
theorem dX12_lineOf_38 : decode cX12_lineOf 38 = .ok (.ireturn, 1) := by decide +kernel
theorem dX12_positionOf_0 : decode cX12_positionOf 0 = .ok (.iconst 1, 1) := by decide +kernel
theorem dX12_positionOf_1 : decode cX12_positionOf 1 = .ok (.istore_n 2, 1) := by decide +kernel
theorem dX12_positionOf_2 : decode cX12_positionOf 2 = .ok (.iconst 0, 1) := by decide +kernel
theorem dX12_positionOf_3 : decode cX12_positionOf 3 = .ok (.istore_n 3, 1) := by decide +kernel
theorem dX12_positionOf_4 : decode cX12_positionOf 4 = .ok (.iload_n 3, 1) := by decide +kernel
theorem dX12_positionOf_5 : decode cX12_positionOf 5 = .ok (.aload_n 0, 1) := by decide +kernel
theorem dX12_positionOf_6 : decode cX12_positionOf 6 = .ok (.getfield 7, 3) := by decide +kernel
theorem dX12_positionOf_9 : decode cX12_positionOf 9 = .ok (.iconst 0, 1) := by decide +kernel
theorem dX12_positionOf_10 : decode cX12_positionOf 10 = .ok (.iaload, 1) := by decide +kernel
theorem dX12_positionOf_11 : decode cX12_positionOf 11 = .ok (.if_icmp .ge 48, 3) := by decide +kernel
theorem dX12_positionOf_14 : decode cX12_positionOf 14 = .ok (.iload_n 2, 1) := by decide +kernel
theorem dX12_positionOf_15 : decode cX12_positionOf 15 = .ok (.aload_n 0, 1) := by decide +kernel
theorem dX12_positionOf_16 : decode cX12_positionOf 16 = .ok (.iload_n 3, 1) := by decide +kernel
theorem dX12_positionOf_17 : decode cX12_positionOf 17 = .ok (.aload_n 0, 1) := by decide +kernel
theorem dX12_positionOf_18 : decode cX12_positionOf 18 = .ok (.iload_n 1, 1) := by decide +kernel
theorem dX12_positionOf_19 : decode cX12_positionOf 19 = .ok (.iconst 5, 1) := by decide +kernel
theorem dX12_positionOf_20 : decode cX12_positionOf 20 = .ok (.invokevirtual 80, 3) := by decide +kernel
theorem dX12_positionOf_23 : decode cX12_positionOf 23 = .ok (.invokevirtual 91, 3) := by decide +kernel
theorem dX12_positionOf_26 : decode cX12_positionOf 26 = .ok (.ifCond .eq 24, 3) := by decide +kernel
theorem dX12_positionOf_29 : decode cX12_positionOf 29 = .ok (.aload_n 0, 1) := by decide +kernel
theorem dX12_positionOf_30 : decode cX12_positionOf 30 = .ok (.iload_n 3, 1) := by decide +kernel
theorem dX12_positionOf_31 : decode cX12_positionOf 31 = .ok (.bipush 11, 2) := by decide +kernel
theorem dX12_positionOf_33 : decode cX12_positionOf 33 = .ok (.invokevirtual 80, 3) := by decide +kernel
theorem dX12_positionOf_36 : decode cX12_positionOf 36 = .ok (.aload_n 0, 1) := by decide +kernel
theorem dX12_positionOf_37 : decode cX12_positionOf 37 = .ok (.iload_n 1, 1) := by decide +kernel
theorem dX12_positionOf_38 : decode cX12_positionOf 38 = .ok (.bipush 11, 2) := by decide +kernel
theorem dX12_positionOf_40 : decode cX12_positionOf 40 = .ok (.invokevirtual 80, 3) := by decide +kernel
theorem dX12_positionOf_43 : decode cX12_positionOf 43 = .ok (.if_icmp .ge 7, 3) := by decide +kernel
theorem dX12_positionOf_46 : decode cX12_positionOf 46 = .ok (.iconst 1, 1) := by decide +kernel
theorem dX12_positionOf_47 : decode cX12_positionOf 47 = .ok (.goto 4, 3) := by decide +kernel
theorem dX12_positionOf_50 : decode cX12_positionOf 50 = .ok (.iconst 0, 1) := by decide +kernel
theorem dX12_positionOf_51 : decode cX12_positionOf 51 = .ok (.iadd, 1) := by decide +kernel
theorem dX12_positionOf_52 : decode cX12_positionOf 52 = .ok (.istore_n 2, 1) := by decide +kernel
theorem dX12_positionOf_53 : decode cX12_positionOf 53 = .ok (.iinc 3 1, 3) := by decide +kernel
theorem dX12_positionOf_56 : decode cX12_positionOf 56 = .ok (.goto (-52), 3) := by decide +kernel
theorem dX12_positionOf_59 : decode cX12_positionOf 59 = .ok (.iload_n 2, 1) := by decide +kernel
theorem dX12_positionOf_60 : decode cX12_positionOf 60 = .ok (.ireturn, 1) := by decide +kernel
theorem dX12_inLine_0 : decode cX12_inLine 0 = .ok (.iconst 0, 1) := by decide +kernel
theorem dX12_inLine_1 : decode cX12_inLine 1 = .ok (.istore_n 3, 1) := by decide +kernel
theorem dX12_inLine_2 : decode cX12_inLine 2 = .ok (.iload_n 3, 1) := by decide +kernel
theorem dX12_inLine_3 : decode cX12_inLine 3 = .ok (.aload_n 0, 1) := by decide +kernel
theorem dX12_inLine_4 : decode cX12_inLine 4 = .ok (.getfield 7, 3) := by decide +kernel
theorem dX12_inLine_7 : decode cX12_inLine 7 = .ok (.iconst 0, 1) := by decide +kernel
theorem dX12_inLine_8 : decode cX12_inLine 8 = .ok (.iaload, 1) := by decide +kernel
theorem dX12_inLine_9 : decode cX12_inLine 9 = .ok (.if_icmp .ge 29, 3) := by decide +kernel
theorem dX12_inLine_12 : decode cX12_inLine 12 = .ok (.aload_n 0, 1) := by decide +kernel
theorem dX12_inLine_13 : decode cX12_inLine 13 = .ok (.iload_n 3, 1) := by decide +kernel
theorem dX12_inLine_14 : decode cX12_inLine 14 = .ok (.iload_n 1, 1) := by decide +kernel
theorem dX12_inLine_15 : decode cX12_inLine 15 = .ok (.invokevirtual 91, 3) := by decide +kernel
theorem dX12_inLine_18 : decode cX12_inLine 18 = .ok (.ifCond .eq 14, 3) := by decide +kernel
theorem dX12_inLine_21 : decode cX12_inLine 21 = .ok (.aload_n 0, 1) := by decide +kernel
theorem dX12_inLine_22 : decode cX12_inLine 22 = .ok (.iload_n 3, 1) := by decide +kernel
theorem dX12_inLine_23 : decode cX12_inLine 23 = .ok (.invokevirtual 94, 3) := by decide +kernel
theorem dX12_inLine_26 : decode cX12_inLine 26 = .ok (.iload_n 2, 1) := by decide +kernel
theorem dX12_inLine_27 : decode cX12_inLine 27 = .ok (.if_icmp .ne 5, 3) := by decide +kernel
theorem dX12_inLine_30 : decode cX12_inLine 30 = .ok (.iload_n 3, 1) := by decide +kernel
theorem dX12_inLine_31 : decode cX12_inLine 31 = .ok (.ireturn, 1) := by decide +kernel
theorem dX12_inLine_32 : decode cX12_inLine 32 = .ok (.iinc 3 1, 3) := by decide +kernel
theorem dX12_inLine_35 : decode cX12_inLine 35 = .ok (.goto (-33), 3) := by decide +kernel
theorem dX12_inLine_38 : decode cX12_inLine 38 = .ok (.iconst (-1), 1) := by decide +kernel
theorem dX12_inLine_39 : decode cX12_inLine 39 = .ok (.ireturn, 1) := by decide +kernel
theorem dX12_cannotAdd_0 : decode cX12_cannotAdd 0 = .ok (.iload_n 1, 1) := by decide +kernel
theorem dX12_cannotAdd_1 : decode cX12_cannotAdd 1 = .ok (.bipush 65, 2) := by decide +kernel
theorem dX12_cannotAdd_3 : decode cX12_cannotAdd 3 = .ok (.bipush 90, 2) := by decide +kernel
theorem dX12_cannotAdd_5 : decode cX12_cannotAdd 5 = .ok (.invokestatic 76, 3) := by decide +kernel
theorem dX12_cannotAdd_8 : decode cX12_cannotAdd 8 = .ok (.ifCond .eq 41, 3) := by decide +kernel
theorem dX12_cannotAdd_11 : decode cX12_cannotAdd 11 = .ok (.iload_n 2, 1) := by decide +kernel
theorem dX12_cannotAdd_12 : decode cX12_cannotAdd 12 = .ok (.iconst 0, 1) := by decide +kernel
theorem dX12_cannotAdd_13 : decode cX12_cannotAdd 13 = .ok (.bipush 9, 2) := by decide +kernel
theorem dX12_cannotAdd_15 : decode cX12_cannotAdd 15 = .ok (.invokestatic 76, 3) := by decide +kernel
theorem dX12_cannotAdd_18 : decode cX12_cannotAdd 18 = .ok (.ifCond .eq 31, 3) := by decide +kernel
theorem dX12_cannotAdd_21 : decode cX12_cannotAdd 21 = .ok (.iload_n 3, 1) := by decide +kernel
theorem dX12_cannotAdd_22 : decode cX12_cannotAdd 22 = .ok (.iload 4, 2) := by decide +kernel
theorem dX12_cannotAdd_24 : decode cX12_cannotAdd 24 = .ok (.invokestatic 98, 3) := by decide +kernel
theorem dX12_cannotAdd_27 : decode cX12_cannotAdd 27 = .ok (.ifCond .eq 22, 3) := by decide +kernel
theorem dX12_cannotAdd_30 : decode cX12_cannotAdd 30 = .ok (.iload 5, 2) := by decide +kernel
theorem dX12_cannotAdd_32 : decode cX12_cannotAdd 32 = .ok (.iconst 1, 1) := by decide +kernel
theorem dX12_cannotAdd_33 : decode cX12_cannotAdd 33 = .ok (.bipush 99, 2) := by decide +kernel
theorem dX12_cannotAdd_35 : decode cX12_cannotAdd 35 = .ok (.invokestatic 76, 3) := by decide +kernel
theorem dX12_cannotAdd_38 : decode cX12_cannotAdd 38 = .ok (.ifCond .eq 11, 3) := by decide +kernel
theorem dX12_cannotAdd_41 : decode cX12_cannotAdd 41 = .ok (.iload 6, 2) := by decide +kernel
theorem dX12_cannotAdd_43 : decode cX12_cannotAdd 43 = .ok (.invokestatic 101, 3) := by decide +kernel
theorem dX12_cannotAdd_46 : decode cX12_cannotAdd 46 = .ok (.ifCond .ne 5, 3) := by decide +kernel
theorem dX12_cannotAdd_49 : decode cX12_cannotAdd 49 = .ok (.iconst 1, 1) := by decide +kernel
theorem dX12_cannotAdd_50 : decode cX12_cannotAdd 50 = .ok (.ireturn, 1) := by decide +kernel
theorem dX12_cannotAdd_51 : decode cX12_cannotAdd 51 = .ok (.aload_n 0, 1) := by decide +kernel
theorem dX12_cannotAdd_52 : decode cX12_cannotAdd 52 = .ok (.iload_n 1, 1) := by decide +kernel
theorem dX12_cannotAdd_53 : decode cX12_cannotAdd 53 = .ok (.iload_n 2, 1) := by decide +kernel
theorem dX12_cannotAdd_54 : decode cX12_cannotAdd 54 = .ok (.invokevirtual 105, 3) := by decide +kernel
theorem dX12_cannotAdd_57 : decode cX12_cannotAdd 57 = .ok (.ifCond .lt 7, 3) := by decide +kernel
theorem dX12_cannotAdd_60 : decode cX12_cannotAdd 60 = .ok (.iconst 2, 1) := by decide +kernel
theorem dX12_cannotAdd_61 : decode cX12_cannotAdd 61 = .ok (.goto 19, 3) := by decide +kernel
theorem dX12_cannotAdd_64 : decode cX12_cannotAdd 64 = .ok (.aload_n 0, 1) := by decide +kernel
theorem dX12_cannotAdd_65 : decode cX12_cannotAdd 65 = .ok (.getfield 7, 3) := by decide +kernel
theorem dX12_cannotAdd_68 : decode cX12_cannotAdd 68 = .ok (.iconst 0, 1) := by decide +kernel
theorem dX12_cannotAdd_69 : decode cX12_cannotAdd 69 = .ok (.iaload, 1) := by decide +kernel
theorem dX12_cannotAdd_70 : decode cX12_cannotAdd 70 = .ok (.bipush 8, 2) := by decide +kernel
theorem dX12_cannotAdd_72 : decode cX12_cannotAdd 72 = .ok (.if_icmp .ne 7, 3) := by decide +kernel
theorem dX12_cannotAdd_75 : decode cX12_cannotAdd 75 = .ok (.iconst 3, 1) := by decide +kernel
theorem dX12_cannotAdd_76 : decode cX12_cannotAdd 76 = .ok (.goto 4, 3) := by decide +kernel
theorem dX12_cannotAdd_79 : decode cX12_cannotAdd 79 = .ok (.iconst 0, 1) := by decide +kernel
theorem dX12_cannotAdd_80 : decode cX12_cannotAdd 80 = .ok (.ireturn, 1) := by decide +kernel
theorem dX12_adds_0 : decode cX12_adds 0 = .ok (.aload_n 0, 1) := by decide +kernel
theorem dX12_adds_1 : decode cX12_adds 1 = .ok (.getfield 7, 3) := by decide +kernel
theorem dX12_adds_4 : decode cX12_adds 4 = .ok (.iconst 0, 1) := by decide +kernel
theorem dX12_adds_5 : decode cX12_adds 5 = .ok (.iaload, 1) := by decide +kernel
theorem dX12_adds_6 : decode cX12_adds 6 = .ok (.istore 7, 2) := by decide +kernel
theorem dX12_adds_8 : decode cX12_adds 8 = .ok (.iconst 0, 1) := by decide +kernel
theorem dX12_adds_9 : decode cX12_adds 9 = .ok (.istore 8, 2) := by decide +kernel
theorem dX12_adds_11 : decode cX12_adds 11 = .ok (.iload 8, 2) := by decide +kernel
theorem dX12_adds_13 : decode cX12_adds 13 = .ok (.bipush 12, 2) := by decide +kernel
theorem dX12_adds_15 : decode cX12_adds 15 = .ok (.if_icmp .ge 18, 3) := by decide +kernel
theorem dX12_adds_18 : decode cX12_adds 18 = .ok (.aload_n 0, 1) := by decide +kernel
theorem dX12_adds_19 : decode cX12_adds 19 = .ok (.iload 7, 2) := by decide +kernel
theorem dX12_adds_21 : decode cX12_adds 21 = .ok (.iload 8, 2) := by decide +kernel
theorem dX12_adds_23 : decode cX12_adds 23 = .ok (.iconst 0, 1) := by decide +kernel
theorem dX12_adds_24 : decode cX12_adds 24 = .ok (.invokevirtual 108, 3) := by decide +kernel
theorem dX12_adds_27 : decode cX12_adds 27 = .ok (.iinc 8 1, 3) := by decide +kernel
theorem dX12_adds_30 : decode cX12_adds 30 = .ok (.goto (-19), 3) := by decide +kernel
theorem dX12_adds_33 : decode cX12_adds 33 = .ok (.aload_n 0, 1) := by decide +kernel
theorem dX12_adds_34 : decode cX12_adds 34 = .ok (.iload 7, 2) := by decide +kernel
theorem dX12_adds_36 : decode cX12_adds 36 = .ok (.iconst 0, 1) := by decide +kernel
theorem dX12_adds_37 : decode cX12_adds 37 = .ok (.iload_n 1, 1) := by decide +kernel
theorem dX12_adds_38 : decode cX12_adds 38 = .ok (.invokevirtual 108, 3) := by decide +kernel
theorem dX12_adds_41 : decode cX12_adds 41 = .ok (.aload_n 0, 1) := by decide +kernel
theorem dX12_adds_42 : decode cX12_adds 42 = .ok (.iload 7, 2) := by decide +kernel
theorem dX12_adds_44 : decode cX12_adds 44 = .ok (.iconst 1, 1) := by decide +kernel
theorem dX12_adds_45 : decode cX12_adds 45 = .ok (.iload_n 2, 1) := by decide +kernel
theorem dX12_adds_46 : decode cX12_adds 46 = .ok (.invokevirtual 108, 3) := by decide +kernel
theorem dX12_adds_49 : decode cX12_adds 49 = .ok (.aload_n 0, 1) := by decide +kernel
theorem dX12_adds_50 : decode cX12_adds 50 = .ok (.iload 7, 2) := by decide +kernel
theorem dX12_adds_52 : decode cX12_adds 52 = .ok (.iconst 2, 1) := by decide +kernel
theorem dX12_adds_53 : decode cX12_adds 53 = .ok (.iload_n 3, 1) := by decide +kernel
theorem dX12_adds_54 : decode cX12_adds 54 = .ok (.invokevirtual 108, 3) := by decide +kernel
theorem dX12_adds_57 : decode cX12_adds 57 = .ok (.aload_n 0, 1) := by decide +kernel
theorem dX12_adds_58 : decode cX12_adds 58 = .ok (.iload 7, 2) := by decide +kernel
theorem dX12_adds_60 : decode cX12_adds 60 = .ok (.iconst 3, 1) := by decide +kernel
theorem dX12_adds_61 : decode cX12_adds 61 = .ok (.iload 4, 2) := by decide +kernel
theorem dX12_adds_63 : decode cX12_adds 63 = .ok (.invokevirtual 108, 3) := by decide +kernel
theorem dX12_adds_66 : decode cX12_adds 66 = .ok (.aload_n 0, 1) := by decide +kernel
theorem dX12_adds_67 : decode cX12_adds 67 = .ok (.iload 7, 2) := by decide +kernel
theorem dX12_adds_69 : decode cX12_adds 69 = .ok (.iconst 4, 1) := by decide +kernel
theorem dX12_adds_70 : decode cX12_adds 70 = .ok (.iload 5, 2) := by decide +kernel
theorem dX12_adds_72 : decode cX12_adds 72 = .ok (.invokevirtual 108, 3) := by decide +kernel
theorem dX12_adds_75 : decode cX12_adds 75 = .ok (.aload_n 0, 1) := by decide +kernel
theorem dX12_adds_76 : decode cX12_adds 76 = .ok (.iload 7, 2) := by decide +kernel
theorem dX12_adds_78 : decode cX12_adds 78 = .ok (.iconst 5, 1) := by decide +kernel
theorem dX12_adds_79 : decode cX12_adds 79 = .ok (.iload 6, 2) := by decide +kernel
theorem dX12_adds_81 : decode cX12_adds 81 = .ok (.invokevirtual 108, 3) := by decide +kernel
theorem dX12_adds_84 : decode cX12_adds 84 = .ok (.aload_n 0, 1) := by decide +kernel
theorem dX12_adds_85 : decode cX12_adds 85 = .ok (.getfield 7, 3) := by decide +kernel
theorem dX12_adds_88 : decode cX12_adds 88 = .ok (.iconst 0, 1) := by decide +kernel
theorem dX12_adds_89 : decode cX12_adds 89 = .ok (.dup2, 1) := by decide +kernel
theorem dX12_adds_90 : decode cX12_adds 90 = .ok (.iaload, 1) := by decide +kernel
theorem dX12_adds_91 : decode cX12_adds 91 = .ok (.iconst 1, 1) := by decide +kernel
theorem dX12_adds_92 : decode cX12_adds 92 = .ok (.iadd, 1) := by decide +kernel
theorem dX12_adds_93 : decode cX12_adds 93 = .ok (.iastore, 1) := by decide +kernel
theorem dX12_adds_94 : decode cX12_adds 94 = .ok (.iload 7, 2) := by decide +kernel
theorem dX12_adds_96 : decode cX12_adds 96 = .ok (.ireturn, 1) := by decide +kernel
theorem dX12_addStation_0 : decode cX12_addStation 0 = .ok (.aload_n 0, 1) := by decide +kernel
theorem dX12_addStation_1 : decode cX12_addStation 1 = .ok (.invokevirtual 112, 3) := by decide +kernel
theorem dX12_addStation_4 : decode cX12_addStation 4 = .ok (.aload_n 0, 1) := by decide +kernel
theorem dX12_addStation_5 : decode cX12_addStation 5 = .ok (.iload_n 1, 1) := by decide +kernel
theorem dX12_addStation_6 : decode cX12_addStation 6 = .ok (.iload_n 2, 1) := by decide +kernel
theorem dX12_addStation_7 : decode cX12_addStation 7 = .ok (.iload_n 3, 1) := by decide +kernel
theorem dX12_addStation_8 : decode cX12_addStation 8 = .ok (.iload 4, 2) := by decide +kernel
theorem dX12_addStation_10 : decode cX12_addStation 10 = .ok (.iload 5, 2) := by decide +kernel
theorem dX12_addStation_12 : decode cX12_addStation 12 = .ok (.iload 6, 2) := by decide +kernel
theorem dX12_addStation_14 : decode cX12_addStation 14 = .ok (.invokevirtual 115, 3) := by decide +kernel
theorem dX12_addStation_17 : decode cX12_addStation 17 = .ok (.istore 7, 2) := by decide +kernel
theorem dX12_addStation_19 : decode cX12_addStation 19 = .ok (.iload 7, 2) := by decide +kernel
theorem dX12_addStation_21 : decode cX12_addStation 21 = .ok (.ifCond .le 12, 3) := by decide +kernel
theorem dX12_addStation_24 : decode cX12_addStation 24 = .ok (.aload_n 0, 1) := by decide +kernel
theorem dX12_addStation_25 : decode cX12_addStation 25 = .ok (.iload 7, 2) := by decide +kernel
theorem dX12_addStation_27 : decode cX12_addStation 27 = .ok (.invokevirtual 119, 3) := by decide +kernel
theorem dX12_addStation_30 : decode cX12_addStation 30 = .ok (.goto 20, 3) := by decide +kernel
theorem dX12_addStation_33 : decode cX12_addStation 33 = .ok (.aload_n 0, 1) := by decide +kernel
theorem dX12_addStation_34 : decode cX12_addStation 34 = .ok (.aload_n 0, 1) := by decide +kernel
theorem dX12_addStation_35 : decode cX12_addStation 35 = .ok (.iload_n 1, 1) := by decide +kernel
theorem dX12_addStation_36 : decode cX12_addStation 36 = .ok (.iload_n 2, 1) := by decide +kernel
theorem dX12_addStation_37 : decode cX12_addStation 37 = .ok (.iload_n 3, 1) := by decide +kernel
theorem dX12_addStation_38 : decode cX12_addStation 38 = .ok (.iload 4, 2) := by decide +kernel
theorem dX12_addStation_40 : decode cX12_addStation 40 = .ok (.iload 5, 2) := by decide +kernel
theorem dX12_addStation_42 : decode cX12_addStation 42 = .ok (.iload 6, 2) := by decide +kernel
theorem dX12_addStation_44 : decode cX12_addStation 44 = .ok (.invokevirtual 122, 3) := by decide +kernel
theorem dX12_addStation_47 : decode cX12_addStation 47 = .ok (.invokevirtual 125, 3) := by decide +kernel
theorem dX12_addStation_50 : decode cX12_addStation 50 = .ok (.ireturn, 1) := by decide +kernel
theorem dX12_moves_0 : decode cX12_moves 0 = .ok (.aload_n 0, 1) := by decide +kernel
theorem dX12_moves_1 : decode cX12_moves 1 = .ok (.iload_n 1, 1) := by decide +kernel
theorem dX12_moves_2 : decode cX12_moves 2 = .ok (.iconst 2, 1) := by decide +kernel
theorem dX12_moves_3 : decode cX12_moves 3 = .ok (.iload_n 2, 1) := by decide +kernel
theorem dX12_moves_4 : decode cX12_moves 4 = .ok (.invokevirtual 108, 3) := by decide +kernel
theorem dX12_moves_7 : decode cX12_moves 7 = .ok (.aload_n 0, 1) := by decide +kernel
theorem dX12_moves_8 : decode cX12_moves 8 = .ok (.iload_n 1, 1) := by decide +kernel
theorem dX12_moves_9 : decode cX12_moves 9 = .ok (.iconst 3, 1) := by decide +kernel
theorem dX12_moves_10 : decode cX12_moves 10 = .ok (.iload_n 3, 1) := by decide +kernel
theorem dX12_moves_11 : decode cX12_moves 11 = .ok (.invokevirtual 108, 3) := by decide +kernel
theorem dX12_moves_14 : decode cX12_moves 14 = .ok (.iconst 0, 1) := by decide +kernel
theorem dX12_moves_15 : decode cX12_moves 15 = .ok (.istore 4, 2) := by decide +kernel
theorem dX12_moves_17 : decode cX12_moves 17 = .ok (.iconst 0, 1) := by decide +kernel
theorem dX12_moves_18 : decode cX12_moves 18 = .ok (.istore 5, 2) := by decide +kernel
theorem dX12_moves_20 : decode cX12_moves 20 = .ok (.iload 5, 2) := by decide +kernel
theorem dX12_moves_22 : decode cX12_moves 22 = .ok (.aload_n 0, 1) := by decide +kernel
theorem dX12_moves_23 : decode cX12_moves 23 = .ok (.getfield 7, 3) := by decide +kernel
theorem dX12_moves_26 : decode cX12_moves 26 = .ok (.iconst 0, 1) := by decide +kernel
theorem dX12_moves_27 : decode cX12_moves 27 = .ok (.iaload, 1) := by decide +kernel
theorem dX12_moves_28 : decode cX12_moves 28 = .ok (.if_icmp .ge 29, 3) := by decide +kernel
theorem dX12_moves_31 : decode cX12_moves 31 = .ok (.iload 4, 2) := by decide +kernel
theorem dX12_moves_33 : decode cX12_moves 33 = .ok (.aload_n 0, 1) := by decide +kernel
theorem dX12_moves_34 : decode cX12_moves 34 = .ok (.iload 5, 2) := by decide +kernel
theorem dX12_moves_36 : decode cX12_moves 36 = .ok (.iload_n 1, 1) := by decide +kernel
theorem dX12_moves_37 : decode cX12_moves 37 = .ok (.invokevirtual 128, 3) := by decide +kernel
theorem dX12_moves_40 : decode cX12_moves 40 = .ok (.ifCond .eq 7, 3) := by decide +kernel
theorem dX12_moves_43 : decode cX12_moves 43 = .ok (.iconst 1, 1) := by decide +kernel
theorem dX12_moves_44 : decode cX12_moves 44 = .ok (.goto 4, 3) := by decide +kernel
theorem dX12_moves_47 : decode cX12_moves 47 = .ok (.iconst 0, 1) := by decide +kernel
theorem dX12_moves_48 : decode cX12_moves 48 = .ok (.iadd, 1) := by decide +kernel
theorem dX12_moves_49 : decode cX12_moves 49 = .ok (.istore 4, 2) := by decide +kernel
theorem dX12_moves_51 : decode cX12_moves 51 = .ok (.iinc 5 1, 3) := by decide +kernel
theorem dX12_moves_54 : decode cX12_moves 54 = .ok (.goto (-34), 3) := by decide +kernel
theorem dX12_moves_57 : decode cX12_moves 57 = .ok (.iload 4, 2) := by decide +kernel
theorem dX12_moves_59 : decode cX12_moves 59 = .ok (.ireturn, 1) := by decide +kernel
theorem dX12_cannotMove_0 : decode cX12_cannotMove 0 = .ok (.aload_n 0, 1) := by decide +kernel
theorem dX12_cannotMove_1 : decode cX12_cannotMove 1 = .ok (.iload_n 1, 1) := by decide +kernel
theorem dX12_cannotMove_2 : decode cX12_cannotMove 2 = .ok (.invokevirtual 131, 3) := by decide +kernel
theorem dX12_cannotMove_5 : decode cX12_cannotMove 5 = .ok (.ifCond .ne 7, 3) := by decide +kernel
theorem dX12_cannotMove_8 : decode cX12_cannotMove 8 = .ok (.iconst 1, 1) := by decide +kernel
theorem dX12_cannotMove_9 : decode cX12_cannotMove 9 = .ok (.goto 16, 3) := by decide +kernel
theorem dX12_cannotMove_12 : decode cX12_cannotMove 12 = .ok (.iload_n 2, 1) := by decide +kernel
theorem dX12_cannotMove_13 : decode cX12_cannotMove 13 = .ok (.iload_n 3, 1) := by decide +kernel
theorem dX12_cannotMove_14 : decode cX12_cannotMove 14 = .ok (.invokestatic 98, 3) := by decide +kernel
theorem dX12_cannotMove_17 : decode cX12_cannotMove 17 = .ok (.ifCond .eq 7, 3) := by decide +kernel
theorem dX12_cannotMove_20 : decode cX12_cannotMove 20 = .ok (.iconst 0, 1) := by decide +kernel
theorem dX12_cannotMove_21 : decode cX12_cannotMove 21 = .ok (.goto 4, 3) := by decide +kernel
theorem dX12_cannotMove_24 : decode cX12_cannotMove 24 = .ok (.iconst 2, 1) := by decide +kernel
theorem dX12_cannotMove_25 : decode cX12_cannotMove 25 = .ok (.ireturn, 1) := by decide +kernel
theorem dX12_move_0 : decode cX12_move 0 = .ok (.aload_n 0, 1) := by decide +kernel
theorem dX12_move_1 : decode cX12_move 1 = .ok (.invokevirtual 112, 3) := by decide +kernel
theorem dX12_move_4 : decode cX12_move 4 = .ok (.aload_n 0, 1) := by decide +kernel
theorem dX12_move_5 : decode cX12_move 5 = .ok (.iload_n 1, 1) := by decide +kernel
theorem dX12_move_6 : decode cX12_move 6 = .ok (.iload_n 2, 1) := by decide +kernel
theorem dX12_move_7 : decode cX12_move 7 = .ok (.iload_n 3, 1) := by decide +kernel
theorem dX12_move_8 : decode cX12_move 8 = .ok (.invokevirtual 134, 3) := by decide +kernel
theorem dX12_move_11 : decode cX12_move 11 = .ok (.istore 4, 2) := by decide +kernel
theorem dX12_move_13 : decode cX12_move 13 = .ok (.iload 4, 2) := by decide +kernel
theorem dX12_move_15 : decode cX12_move 15 = .ok (.ifCond .le 12, 3) := by decide +kernel
theorem dX12_move_18 : decode cX12_move 18 = .ok (.aload_n 0, 1) := by decide +kernel
theorem dX12_move_19 : decode cX12_move 19 = .ok (.iload 4, 2) := by decide +kernel
theorem dX12_move_21 : decode cX12_move 21 = .ok (.invokevirtual 119, 3) := by decide +kernel
theorem dX12_move_24 : decode cX12_move 24 = .ok (.goto 14, 3) := by decide +kernel
theorem dX12_move_27 : decode cX12_move 27 = .ok (.aload_n 0, 1) := by decide +kernel
theorem dX12_move_28 : decode cX12_move 28 = .ok (.aload_n 0, 1) := by decide +kernel
theorem dX12_move_29 : decode cX12_move 29 = .ok (.iload_n 1, 1) := by decide +kernel
theorem dX12_move_30 : decode cX12_move 30 = .ok (.iload_n 2, 1) := by decide +kernel
theorem dX12_move_31 : decode cX12_move 31 = .ok (.iload_n 3, 1) := by decide +kernel
theorem dX12_move_32 : decode cX12_move 32 = .ok (.invokevirtual 138, 3) := by decide +kernel
theorem dX12_move_35 : decode cX12_move 35 = .ok (.invokevirtual 125, 3) := by decide +kernel
theorem dX12_move_38 : decode cX12_move 38 = .ok (.ireturn, 1) := by decide +kernel
theorem dX12_replaces_0 : decode cX12_replaces 0 = .ok (.aload_n 0, 1) := by decide +kernel
theorem dX12_replaces_1 : decode cX12_replaces 1 = .ok (.iload_n 1, 1) := by decide +kernel
theorem dX12_replaces_2 : decode cX12_replaces 2 = .ok (.iload_n 2, 1) := by decide +kernel
theorem dX12_replaces_3 : decode cX12_replaces 3 = .ok (.invokevirtual 80, 3) := by decide +kernel
theorem dX12_replaces_6 : decode cX12_replaces 6 = .ok (.istore 4, 2) := by decide +kernel
theorem dX12_replaces_8 : decode cX12_replaces 8 = .ok (.aload_n 0, 1) := by decide +kernel
theorem dX12_replaces_9 : decode cX12_replaces 9 = .ok (.iload_n 1, 1) := by decide +kernel
theorem dX12_replaces_10 : decode cX12_replaces 10 = .ok (.iload_n 2, 1) := by decide +kernel
theorem dX12_replaces_11 : decode cX12_replaces 11 = .ok (.iload_n 3, 1) := by decide +kernel
theorem dX12_replaces_12 : decode cX12_replaces 12 = .ok (.invokevirtual 108, 3) := by decide +kernel
theorem dX12_replaces_15 : decode cX12_replaces 15 = .ok (.iload 4, 2) := by decide +kernel
theorem dX12_replaces_17 : decode cX12_replaces 17 = .ok (.ireturn, 1) := by decide +kernel
theorem dX12_cannotPower_0 : decode cX12_cannotPower 0 = .ok (.aload_n 0, 1) := by decide +kernel
theorem dX12_cannotPower_1 : decode cX12_cannotPower 1 = .ok (.iload_n 1, 1) := by decide +kernel
theorem dX12_cannotPower_2 : decode cX12_cannotPower 2 = .ok (.invokevirtual 131, 3) := by decide +kernel
theorem dX12_cannotPower_5 : decode cX12_cannotPower 5 = .ok (.ifCond .ne 7, 3) := by decide +kernel
theorem dX12_cannotPower_8 : decode cX12_cannotPower 8 = .ok (.iconst 1, 1) := by decide +kernel
theorem dX12_cannotPower_9 : decode cX12_cannotPower 9 = .ok (.goto 18, 3) := by decide +kernel
theorem dX12_cannotPower_12 : decode cX12_cannotPower 12 = .ok (.iload_n 2, 1) := by decide +kernel
theorem dX12_cannotPower_13 : decode cX12_cannotPower 13 = .ok (.iconst 1, 1) := by decide +kernel
theorem dX12_cannotPower_14 : decode cX12_cannotPower 14 = .ok (.bipush 99, 2) := by decide +kernel
theorem dX12_cannotPower_16 : decode cX12_cannotPower 16 = .ok (.invokestatic 76, 3) := by decide +kernel
theorem dX12_cannotPower_19 : decode cX12_cannotPower 19 = .ok (.ifCond .eq 7, 3) := by decide +kernel
theorem dX12_cannotPower_22 : decode cX12_cannotPower 22 = .ok (.iconst 0, 1) := by decide +kernel
theorem dX12_cannotPower_23 : decode cX12_cannotPower 23 = .ok (.goto 4, 3) := by decide +kernel
theorem dX12_cannotPower_26 : decode cX12_cannotPower 26 = .ok (.iconst 2, 1) := by decide +kernel
theorem dX12_cannotPower_27 : decode cX12_cannotPower 27 = .ok (.ireturn, 1) := by decide +kernel
theorem dX12_setPower_0 : decode cX12_setPower 0 = .ok (.aload_n 0, 1) := by decide +kernel
theorem dX12_setPower_1 : decode cX12_setPower 1 = .ok (.invokevirtual 112, 3) := by decide +kernel
theorem dX12_setPower_4 : decode cX12_setPower 4 = .ok (.aload_n 0, 1) := by decide +kernel
theorem dX12_setPower_5 : decode cX12_setPower 5 = .ok (.iload_n 1, 1) := by decide +kernel
theorem dX12_setPower_6 : decode cX12_setPower 6 = .ok (.iload_n 2, 1) := by decide +kernel
theorem dX12_setPower_7 : decode cX12_setPower 7 = .ok (.invokevirtual 141, 3) := by decide +kernel
theorem dX12_setPower_10 : decode cX12_setPower 10 = .ok (.istore_n 3, 1) := by decide +kernel
theorem dX12_setPower_11 : decode cX12_setPower 11 = .ok (.iload_n 3, 1) := by decide +kernel
theorem dX12_setPower_12 : decode cX12_setPower 12 = .ok (.ifCond .le 11, 3) := by decide +kernel
theorem dX12_setPower_15 : decode cX12_setPower 15 = .ok (.aload_n 0, 1) := by decide +kernel
theorem dX12_setPower_16 : decode cX12_setPower 16 = .ok (.iload_n 3, 1) := by decide +kernel
theorem dX12_setPower_17 : decode cX12_setPower 17 = .ok (.invokevirtual 119, 3) := by decide +kernel
theorem dX12_setPower_20 : decode cX12_setPower 20 = .ok (.goto 14, 3) := by decide +kernel
theorem dX12_setPower_23 : decode cX12_setPower 23 = .ok (.aload_n 0, 1) := by decide +kernel
theorem dX12_setPower_24 : decode cX12_setPower 24 = .ok (.aload_n 0, 1) := by decide +kernel
theorem dX12_setPower_25 : decode cX12_setPower 25 = .ok (.iload_n 1, 1) := by decide +kernel
theorem dX12_setPower_26 : decode cX12_setPower 26 = .ok (.iconst 4, 1) := by decide +kernel
theorem dX12_setPower_27 : decode cX12_setPower 27 = .ok (.iload_n 2, 1) := by decide +kernel
theorem dX12_setPower_28 : decode cX12_setPower 28 = .ok (.invokevirtual 144, 3) := by decide +kernel
theorem dX12_setPower_31 : decode cX12_setPower 31 = .ok (.invokevirtual 125, 3) := by decide +kernel
theorem dX12_setPower_34 : decode cX12_setPower 34 = .ok (.ireturn, 1) := by decide +kernel
theorem dX12_cannotTune_0 : decode cX12_cannotTune 0 = .ok (.aload_n 0, 1) := by decide +kernel
theorem dX12_cannotTune_1 : decode cX12_cannotTune 1 = .ok (.iload_n 1, 1) := by decide +kernel
theorem dX12_cannotTune_2 : decode cX12_cannotTune 2 = .ok (.invokevirtual 131, 3) := by decide +kernel
theorem dX12_cannotTune_5 : decode cX12_cannotTune 5 = .ok (.ifCond .ne 7, 3) := by decide +kernel
theorem dX12_cannotTune_8 : decode cX12_cannotTune 8 = .ok (.iconst 1, 1) := by decide +kernel
theorem dX12_cannotTune_9 : decode cX12_cannotTune 9 = .ok (.goto 29, 3) := by decide +kernel
theorem dX12_cannotTune_12 : decode cX12_cannotTune 12 = .ok (.iload_n 2, 1) := by decide +kernel
theorem dX12_cannotTune_13 : decode cX12_cannotTune 13 = .ok (.invokestatic 101, 3) := by decide +kernel
theorem dX12_cannotTune_16 : decode cX12_cannotTune 16 = .ok (.ifCond .ne 7, 3) := by decide +kernel
theorem dX12_cannotTune_19 : decode cX12_cannotTune 19 = .ok (.iconst 2, 1) := by decide +kernel
theorem dX12_cannotTune_20 : decode cX12_cannotTune 20 = .ok (.goto 18, 3) := by decide +kernel
theorem dX12_cannotTune_23 : decode cX12_cannotTune 23 = .ok (.aload_n 0, 1) := by decide +kernel
theorem dX12_cannotTune_24 : decode cX12_cannotTune 24 = .ok (.iload_n 1, 1) := by decide +kernel
theorem dX12_cannotTune_25 : decode cX12_cannotTune 25 = .ok (.bipush 6, 2) := by decide +kernel
theorem dX12_cannotTune_27 : decode cX12_cannotTune 27 = .ok (.invokevirtual 80, 3) := by decide +kernel
theorem dX12_cannotTune_30 : decode cX12_cannotTune 30 = .ok (.ifCond .ne 7, 3) := by decide +kernel
theorem dX12_cannotTune_33 : decode cX12_cannotTune 33 = .ok (.iconst 0, 1) := by decide +kernel
theorem dX12_cannotTune_34 : decode cX12_cannotTune 34 = .ok (.goto 4, 3) := by decide +kernel
theorem dX12_cannotTune_37 : decode cX12_cannotTune 37 = .ok (.iconst 3, 1) := by decide +kernel
theorem dX12_cannotTune_38 : decode cX12_cannotTune 38 = .ok (.ireturn, 1) := by decide +kernel
theorem dX12_tune_0 : decode cX12_tune 0 = .ok (.aload_n 0, 1) := by decide +kernel
theorem dX12_tune_1 : decode cX12_tune 1 = .ok (.invokevirtual 112, 3) := by decide +kernel
theorem dX12_tune_4 : decode cX12_tune 4 = .ok (.aload_n 0, 1) := by decide +kernel
theorem dX12_tune_5 : decode cX12_tune 5 = .ok (.iload_n 1, 1) := by decide +kernel
theorem dX12_tune_6 : decode cX12_tune 6 = .ok (.iload_n 2, 1) := by decide +kernel
theorem dX12_tune_7 : decode cX12_tune 7 = .ok (.invokevirtual 147, 3) := by decide +kernel
theorem dX12_tune_10 : decode cX12_tune 10 = .ok (.istore_n 3, 1) := by decide +kernel
theorem dX12_tune_11 : decode cX12_tune 11 = .ok (.iload_n 3, 1) := by decide +kernel
theorem dX12_tune_12 : decode cX12_tune 12 = .ok (.ifCond .le 11, 3) := by decide +kernel
theorem dX12_tune_15 : decode cX12_tune 15 = .ok (.aload_n 0, 1) := by decide +kernel
theorem dX12_tune_16 : decode cX12_tune 16 = .ok (.iload_n 3, 1) := by decide +kernel
theorem dX12_tune_17 : decode cX12_tune 17 = .ok (.invokevirtual 119, 3) := by decide +kernel
theorem dX12_tune_20 : decode cX12_tune 20 = .ok (.goto 14, 3) := by decide +kernel
theorem dX12_tune_23 : decode cX12_tune 23 = .ok (.aload_n 0, 1) := by decide +kernel
theorem dX12_tune_24 : decode cX12_tune 24 = .ok (.aload_n 0, 1) := by decide +kernel
theorem dX12_tune_25 : decode cX12_tune 25 = .ok (.iload_n 1, 1) := by decide +kernel
theorem dX12_tune_26 : decode cX12_tune 26 = .ok (.iconst 5, 1) := by decide +kernel
theorem dX12_tune_27 : decode cX12_tune 27 = .ok (.iload_n 2, 1) := by decide +kernel
theorem dX12_tune_28 : decode cX12_tune 28 = .ok (.invokevirtual 144, 3) := by decide +kernel
theorem dX12_tune_31 : decode cX12_tune 31 = .ok (.invokevirtual 125, 3) := by decide +kernel
theorem dX12_tune_34 : decode cX12_tune 34 = .ok (.ireturn, 1) := by decide +kernel
theorem dX12_speaks_0 : decode cX12_speaks 0 = .ok (.aload_n 0, 1) := by decide +kernel
theorem dX12_speaks_1 : decode cX12_speaks 1 = .ok (.iload_n 1, 1) := by decide +kernel
theorem dX12_speaks_2 : decode cX12_speaks 2 = .ok (.bipush 6, 2) := by decide +kernel
theorem dX12_speaks_4 : decode cX12_speaks 4 = .ok (.iconst 1, 1) := by decide +kernel
theorem dX12_speaks_5 : decode cX12_speaks 5 = .ok (.invokevirtual 108, 3) := by decide +kernel
theorem dX12_speaks_8 : decode cX12_speaks 8 = .ok (.aload_n 0, 1) := by decide +kernel
theorem dX12_speaks_9 : decode cX12_speaks 9 = .ok (.iload_n 1, 1) := by decide +kernel
theorem dX12_speaks_10 : decode cX12_speaks 10 = .ok (.bipush 7, 2) := by decide +kernel
theorem dX12_speaks_12 : decode cX12_speaks 12 = .ok (.aload_n 0, 1) := by decide +kernel
theorem dX12_speaks_13 : decode cX12_speaks 13 = .ok (.getfield 7, 3) := by decide +kernel
theorem dX12_speaks_16 : decode cX12_speaks 16 = .ok (.iconst 1, 1) := by decide +kernel
theorem dX12_speaks_17 : decode cX12_speaks 17 = .ok (.iaload, 1) := by decide +kernel
theorem dX12_speaks_18 : decode cX12_speaks 18 = .ok (.invokevirtual 108, 3) := by decide +kernel
theorem dX12_speaks_21 : decode cX12_speaks 21 = .ok (.aload_n 0, 1) := by decide +kernel
theorem dX12_speaks_22 : decode cX12_speaks 22 = .ok (.iload_n 1, 1) := by decide +kernel
theorem dX12_speaks_23 : decode cX12_speaks 23 = .ok (.bipush 8, 2) := by decide +kernel
theorem dX12_speaks_25 : decode cX12_speaks 25 = .ok (.iconst 0, 1) := by decide +kernel
theorem dX12_speaks_26 : decode cX12_speaks 26 = .ok (.invokevirtual 108, 3) := by decide +kernel
theorem dX12_speaks_29 : decode cX12_speaks 29 = .ok (.return_, 1) := by decide +kernel
theorem dX12_unless_0 : decode cX12_unless 0 = .ok (.aload_n 0, 1) := by decide +kernel
theorem dX12_unless_1 : decode cX12_unless 1 = .ok (.iload_n 1, 1) := by decide +kernel
theorem dX12_unless_2 : decode cX12_unless 2 = .ok (.invokevirtual 131, 3) := by decide +kernel
theorem dX12_unless_5 : decode cX12_unless 5 = .ok (.ifCond .ne 7, 3) := by decide +kernel
theorem dX12_unless_8 : decode cX12_unless 8 = .ok (.iconst 1, 1) := by decide +kernel
theorem dX12_unless_9 : decode cX12_unless 9 = .ok (.goto 19, 3) := by decide +kernel
theorem dX12_unless_12 : decode cX12_unless 12 = .ok (.aload_n 0, 1) := by decide +kernel
theorem dX12_unless_13 : decode cX12_unless 13 = .ok (.iload_n 1, 1) := by decide +kernel
theorem dX12_unless_14 : decode cX12_unless 14 = .ok (.bipush 6, 2) := by decide +kernel
theorem dX12_unless_16 : decode cX12_unless 16 = .ok (.invokevirtual 80, 3) := by decide +kernel
theorem dX12_unless_19 : decode cX12_unless 19 = .ok (.iload_n 2, 1) := by decide +kernel
theorem dX12_unless_20 : decode cX12_unless 20 = .ok (.if_icmp .ne 7, 3) := by decide +kernel
theorem dX12_unless_23 : decode cX12_unless 23 = .ok (.iconst 0, 1) := by decide +kernel
theorem dX12_unless_24 : decode cX12_unless 24 = .ok (.goto 4, 3) := by decide +kernel
theorem dX12_unless_27 : decode cX12_unless 27 = .ok (.iconst 2, 1) := by decide +kernel
theorem dX12_unless_28 : decode cX12_unless 28 = .ok (.ireturn, 1) := by decide +kernel
theorem dX12_requests_0 : decode cX12_requests 0 = .ok (.aload_n 0, 1) := by decide +kernel
theorem dX12_requests_1 : decode cX12_requests 1 = .ok (.aload_n 0, 1) := by decide +kernel
theorem dX12_requests_2 : decode cX12_requests 2 = .ok (.iload_n 1, 1) := by decide +kernel
theorem dX12_requests_3 : decode cX12_requests 3 = .ok (.iconst 5, 1) := by decide +kernel
theorem dX12_requests_4 : decode cX12_requests 4 = .ok (.invokevirtual 80, 3) := by decide +kernel
theorem dX12_requests_7 : decode cX12_requests 7 = .ok (.invokevirtual 150, 3) := by decide +kernel
theorem dX12_requests_10 : decode cX12_requests 10 = .ok (.ifCond .ge 10, 3) := by decide +kernel
theorem dX12_requests_13 : decode cX12_requests 13 = .ok (.aload_n 0, 1) := by decide +kernel
theorem dX12_requests_14 : decode cX12_requests 14 = .ok (.iload_n 1, 1) := by decide +kernel
theorem dX12_requests_15 : decode cX12_requests 15 = .ok (.invokevirtual 153, 3) := by decide +kernel
theorem dX12_requests_18 : decode cX12_requests 18 = .ok (.iconst 0, 1) := by decide +kernel
theorem dX12_requests_19 : decode cX12_requests 19 = .ok (.ireturn, 1) := by decide +kernel
theorem dX12_requests_20 : decode cX12_requests 20 = .ok (.aload_n 0, 1) := by decide +kernel
theorem dX12_requests_21 : decode cX12_requests 21 = .ok (.getfield 7, 3) := by decide +kernel
theorem dX12_requests_24 : decode cX12_requests 24 = .ok (.iconst 3, 1) := by decide +kernel
theorem dX12_requests_25 : decode cX12_requests 25 = .ok (.dup2, 1) := by decide +kernel
theorem dX12_requests_26 : decode cX12_requests 26 = .ok (.iaload, 1) := by decide +kernel
theorem dX12_requests_27 : decode cX12_requests 27 = .ok (.iconst 1, 1) := by decide +kernel
theorem dX12_requests_28 : decode cX12_requests 28 = .ok (.iadd, 1) := by decide +kernel
theorem dX12_requests_29 : decode cX12_requests 29 = .ok (.iastore, 1) := by decide +kernel
theorem dX12_requests_30 : decode cX12_requests 30 = .ok (.aload_n 0, 1) := by decide +kernel
theorem dX12_requests_31 : decode cX12_requests 31 = .ok (.iload_n 1, 1) := by decide +kernel
theorem dX12_requests_32 : decode cX12_requests 32 = .ok (.bipush 11, 2) := by decide +kernel
theorem dX12_requests_34 : decode cX12_requests 34 = .ok (.aload_n 0, 1) := by decide +kernel
theorem dX12_requests_35 : decode cX12_requests 35 = .ok (.getfield 7, 3) := by decide +kernel
theorem dX12_requests_38 : decode cX12_requests 38 = .ok (.iconst 3, 1) := by decide +kernel
theorem dX12_requests_39 : decode cX12_requests 39 = .ok (.iaload, 1) := by decide +kernel
theorem dX12_requests_40 : decode cX12_requests 40 = .ok (.invokevirtual 108, 3) := by decide +kernel
theorem dX12_requests_43 : decode cX12_requests 43 = .ok (.aload_n 0, 1) := by decide +kernel
theorem dX12_requests_44 : decode cX12_requests 44 = .ok (.iload_n 1, 1) := by decide +kernel
theorem dX12_requests_45 : decode cX12_requests 45 = .ok (.bipush 6, 2) := by decide +kernel
theorem dX12_requests_47 : decode cX12_requests 47 = .ok (.iconst 2, 1) := by decide +kernel
theorem dX12_requests_48 : decode cX12_requests 48 = .ok (.invokevirtual 108, 3) := by decide +kernel
theorem dX12_requests_51 : decode cX12_requests 51 = .ok (.aload_n 0, 1) := by decide +kernel
theorem dX12_requests_52 : decode cX12_requests 52 = .ok (.iload_n 1, 1) := by decide +kernel
theorem dX12_requests_53 : decode cX12_requests 53 = .ok (.invokevirtual 94, 3) := by decide +kernel
theorem dX12_requests_56 : decode cX12_requests 56 = .ok (.ireturn, 1) := by decide +kernel
theorem dX12_request_0 : decode cX12_request 0 = .ok (.aload_n 0, 1) := by decide +kernel
theorem dX12_request_1 : decode cX12_request 1 = .ok (.invokevirtual 112, 3) := by decide +kernel
theorem dX12_request_4 : decode cX12_request 4 = .ok (.aload_n 0, 1) := by decide +kernel
theorem dX12_request_5 : decode cX12_request 5 = .ok (.iload_n 1, 1) := by decide +kernel
theorem dX12_request_6 : decode cX12_request 6 = .ok (.iconst 0, 1) := by decide +kernel
theorem dX12_request_7 : decode cX12_request 7 = .ok (.invokevirtual 157, 3) := by decide +kernel
theorem dX12_request_10 : decode cX12_request 10 = .ok (.istore_n 2, 1) := by decide +kernel
theorem dX12_request_11 : decode cX12_request 11 = .ok (.iload_n 2, 1) := by decide +kernel
theorem dX12_request_12 : decode cX12_request 12 = .ok (.ifCond .le 11, 3) := by decide +kernel
theorem dX12_request_15 : decode cX12_request 15 = .ok (.aload_n 0, 1) := by decide +kernel
theorem dX12_request_16 : decode cX12_request 16 = .ok (.iload_n 2, 1) := by decide +kernel
theorem dX12_request_17 : decode cX12_request 17 = .ok (.invokevirtual 119, 3) := by decide +kernel
theorem dX12_request_20 : decode cX12_request 20 = .ok (.goto 12, 3) := by decide +kernel
theorem dX12_request_23 : decode cX12_request 23 = .ok (.aload_n 0, 1) := by decide +kernel
theorem dX12_request_24 : decode cX12_request 24 = .ok (.aload_n 0, 1) := by decide +kernel
theorem dX12_request_25 : decode cX12_request 25 = .ok (.iload_n 1, 1) := by decide +kernel
theorem dX12_request_26 : decode cX12_request 26 = .ok (.invokevirtual 160, 3) := by decide +kernel
theorem dX12_request_29 : decode cX12_request 29 = .ok (.invokevirtual 125, 3) := by decide +kernel
theorem dX12_request_32 : decode cX12_request 32 = .ok (.ireturn, 1) := by decide +kernel
theorem dX12_logs_0 : decode cX12_logs 0 = .ok (.aload_n 0, 1) := by decide +kernel
theorem dX12_logs_1 : decode cX12_logs 1 = .ok (.getfield 7, 3) := by decide +kernel
theorem dX12_logs_4 : decode cX12_logs 4 = .ok (.iconst 4, 1) := by decide +kernel
theorem dX12_logs_5 : decode cX12_logs 5 = .ok (.iaload, 1) := by decide +kernel
theorem dX12_logs_6 : decode cX12_logs 6 = .ok (.bipush 16, 2) := by decide +kernel
theorem dX12_logs_8 : decode cX12_logs 8 = .ok (.if_icmp .ne 51, 3) := by decide +kernel
theorem dX12_logs_11 : decode cX12_logs 11 = .ok (.aload_n 0, 1) := by decide +kernel
theorem dX12_logs_12 : decode cX12_logs 12 = .ok (.getfield 7, 3) := by decide +kernel
theorem dX12_logs_15 : decode cX12_logs 15 = .ok (.iconst 4, 1) := by decide +kernel
theorem dX12_logs_16 : decode cX12_logs 16 = .ok (.dup2, 1) := by decide +kernel
theorem dX12_logs_17 : decode cX12_logs 17 = .ok (.iaload, 1) := by decide +kernel
theorem dX12_logs_18 : decode cX12_logs 18 = .ok (.iconst 1, 1) := by decide +kernel
theorem dX12_logs_19 : decode cX12_logs 19 = .ok (.isub, 1) := by decide +kernel
theorem dX12_logs_20 : decode cX12_logs 20 = .ok (.iastore, 1) := by decide +kernel
theorem dX12_logs_21 : decode cX12_logs 21 = .ok (.bipush 108, 2) := by decide +kernel
theorem dX12_logs_23 : decode cX12_logs 23 = .ok (.istore_n 2, 1) := by decide +kernel
theorem dX12_logs_24 : decode cX12_logs 24 = .ok (.iload_n 2, 1) := by decide +kernel
theorem dX12_logs_25 : decode cX12_logs 25 = .ok (.bipush 108, 2) := by decide +kernel
theorem dX12_logs_27 : decode cX12_logs 27 = .ok (.iconst 3, 1) := by decide +kernel
theorem dX12_logs_28 : decode cX12_logs 28 = .ok (.aload_n 0, 1) := by decide +kernel
theorem dX12_logs_29 : decode cX12_logs 29 = .ok (.getfield 7, 3) := by decide +kernel
theorem dX12_logs_32 : decode cX12_logs 32 = .ok (.iconst 4, 1) := by decide +kernel
theorem dX12_logs_33 : decode cX12_logs 33 = .ok (.iaload, 1) := by decide +kernel
theorem dX12_logs_34 : decode cX12_logs 34 = .ok (.imul, 1) := by decide +kernel
theorem dX12_logs_35 : decode cX12_logs 35 = .ok (.iadd, 1) := by decide +kernel
theorem dX12_logs_36 : decode cX12_logs 36 = .ok (.if_icmp .ge 23, 3) := by decide +kernel
theorem dX12_logs_39 : decode cX12_logs 39 = .ok (.aload_n 0, 1) := by decide +kernel
theorem dX12_logs_40 : decode cX12_logs 40 = .ok (.getfield 7, 3) := by decide +kernel
theorem dX12_logs_43 : decode cX12_logs 43 = .ok (.iload_n 2, 1) := by decide +kernel
theorem dX12_logs_44 : decode cX12_logs 44 = .ok (.aload_n 0, 1) := by decide +kernel
theorem dX12_logs_45 : decode cX12_logs 45 = .ok (.getfield 7, 3) := by decide +kernel
theorem dX12_logs_48 : decode cX12_logs 48 = .ok (.iload_n 2, 1) := by decide +kernel
theorem dX12_logs_49 : decode cX12_logs 49 = .ok (.iconst 3, 1) := by decide +kernel
theorem dX12_logs_50 : decode cX12_logs 50 = .ok (.iadd, 1) := by decide +kernel
theorem dX12_logs_51 : decode cX12_logs 51 = .ok (.iaload, 1) := by decide +kernel
theorem dX12_logs_52 : decode cX12_logs 52 = .ok (.iastore, 1) := by decide +kernel
theorem dX12_logs_53 : decode cX12_logs 53 = .ok (.iinc 2 1, 3) := by decide +kernel
theorem dX12_logs_56 : decode cX12_logs 56 = .ok (.goto (-32), 3) := by decide +kernel
theorem dX12_logs_59 : decode cX12_logs 59 = .ok (.bipush 108, 2) := by decide +kernel
theorem dX12_logs_61 : decode cX12_logs 61 = .ok (.iconst 3, 1) := by decide +kernel
theorem dX12_logs_62 : decode cX12_logs 62 = .ok (.aload_n 0, 1) := by decide +kernel
theorem dX12_logs_63 : decode cX12_logs 63 = .ok (.getfield 7, 3) := by decide +kernel
theorem dX12_logs_66 : decode cX12_logs 66 = .ok (.iconst 4, 1) := by decide +kernel
theorem dX12_logs_67 : decode cX12_logs 67 = .ok (.iaload, 1) := by decide +kernel
theorem dX12_logs_68 : decode cX12_logs 68 = .ok (.imul, 1) := by decide +kernel
theorem dX12_logs_69 : decode cX12_logs 69 = .ok (.iadd, 1) := by decide +kernel
theorem dX12_logs_70 : decode cX12_logs 70 = .ok (.istore_n 2, 1) := by decide +kernel
theorem dX12_logs_71 : decode cX12_logs 71 = .ok (.aload_n 0, 1) := by decide +kernel
theorem dX12_logs_72 : decode cX12_logs 72 = .ok (.getfield 7, 3) := by decide +kernel
theorem dX12_logs_75 : decode cX12_logs 75 = .ok (.iload_n 2, 1) := by decide +kernel
theorem dX12_logs_76 : decode cX12_logs 76 = .ok (.iload_n 1, 1) := by decide +kernel
theorem dX12_logs_77 : decode cX12_logs 77 = .ok (.iastore, 1) := by decide +kernel
theorem dX12_logs_78 : decode cX12_logs 78 = .ok (.aload_n 0, 1) := by decide +kernel
theorem dX12_logs_79 : decode cX12_logs 79 = .ok (.getfield 7, 3) := by decide +kernel
theorem dX12_logs_82 : decode cX12_logs 82 = .ok (.iload_n 2, 1) := by decide +kernel
theorem dX12_logs_83 : decode cX12_logs 83 = .ok (.iconst 1, 1) := by decide +kernel
theorem dX12_logs_84 : decode cX12_logs 84 = .ok (.iadd, 1) := by decide +kernel
theorem dX12_logs_85 : decode cX12_logs 85 = .ok (.aload_n 0, 1) := by decide +kernel
theorem dX12_logs_86 : decode cX12_logs 86 = .ok (.iload_n 1, 1) := by decide +kernel
theorem dX12_logs_87 : decode cX12_logs 87 = .ok (.bipush 7, 2) := by decide +kernel
theorem dX12_logs_89 : decode cX12_logs 89 = .ok (.invokevirtual 80, 3) := by decide +kernel
theorem dX12_logs_92 : decode cX12_logs 92 = .ok (.iastore, 1) := by decide +kernel
theorem dX12_logs_93 : decode cX12_logs 93 = .ok (.aload_n 0, 1) := by decide +kernel
theorem dX12_logs_94 : decode cX12_logs 94 = .ok (.getfield 7, 3) := by decide +kernel
theorem dX12_logs_97 : decode cX12_logs 97 = .ok (.iload_n 2, 1) := by decide +kernel
theorem dX12_logs_98 : decode cX12_logs 98 = .ok (.iconst 2, 1) := by decide +kernel
theorem dX12_logs_99 : decode cX12_logs 99 = .ok (.iadd, 1) := by decide +kernel
theorem dX12_logs_100 : decode cX12_logs 100 = .ok (.aload_n 0, 1) := by decide +kernel
theorem dX12_logs_101 : decode cX12_logs 101 = .ok (.iload_n 1, 1) := by decide +kernel
theorem dX12_logs_102 : decode cX12_logs 102 = .ok (.bipush 8, 2) := by decide +kernel
theorem dX12_logs_104 : decode cX12_logs 104 = .ok (.invokevirtual 80, 3) := by decide +kernel
theorem dX12_logs_107 : decode cX12_logs 107 = .ok (.iastore, 1) := by decide +kernel
theorem dX12_logs_108 : decode cX12_logs 108 = .ok (.aload_n 0, 1) := by decide +kernel
theorem dX12_logs_109 : decode cX12_logs 109 = .ok (.getfield 7, 3) := by decide +kernel
theorem dX12_logs_112 : decode cX12_logs 112 = .ok (.iconst 4, 1) := by decide +kernel
theorem dX12_logs_113 : decode cX12_logs 113 = .ok (.dup2, 1) := by decide +kernel
theorem dX12_logs_114 : decode cX12_logs 114 = .ok (.iaload, 1) := by decide +kernel
theorem dX12_logs_115 : decode cX12_logs 115 = .ok (.iconst 1, 1) := by decide +kernel
theorem dX12_logs_116 : decode cX12_logs 116 = .ok (.iadd, 1) := by decide +kernel
theorem dX12_logs_117 : decode cX12_logs 117 = .ok (.iastore, 1) := by decide +kernel
theorem dX12_logs_118 : decode cX12_logs 118 = .ok (.return_, 1) := by decide +kernel
theorem dX12_ends_0 : decode cX12_ends 0 = .ok (.aload_n 0, 1) := by decide +kernel
theorem dX12_ends_1 : decode cX12_ends 1 = .ok (.iload_n 1, 1) := by decide +kernel
theorem dX12_ends_2 : decode cX12_ends 2 = .ok (.bipush 8, 2) := by decide +kernel
theorem dX12_ends_4 : decode cX12_ends 4 = .ok (.invokevirtual 80, 3) := by decide +kernel
theorem dX12_ends_7 : decode cX12_ends 7 = .ok (.istore_n 2, 1) := by decide +kernel
theorem dX12_ends_8 : decode cX12_ends 8 = .ok (.aload_n 0, 1) := by decide +kernel
theorem dX12_ends_9 : decode cX12_ends 9 = .ok (.iload_n 1, 1) := by decide +kernel
theorem dX12_ends_10 : decode cX12_ends 10 = .ok (.invokevirtual 163, 3) := by decide +kernel
theorem dX12_ends_13 : decode cX12_ends 13 = .ok (.aload_n 0, 1) := by decide +kernel
theorem dX12_ends_14 : decode cX12_ends 14 = .ok (.aload_n 0, 1) := by decide +kernel
theorem dX12_ends_15 : decode cX12_ends 15 = .ok (.iload_n 1, 1) := by decide +kernel
theorem dX12_ends_16 : decode cX12_ends 16 = .ok (.iconst 5, 1) := by decide +kernel
theorem dX12_ends_17 : decode cX12_ends 17 = .ok (.invokevirtual 80, 3) := by decide +kernel
theorem dX12_ends_20 : decode cX12_ends 20 = .ok (.iconst 1, 1) := by decide +kernel
theorem dX12_ends_21 : decode cX12_ends 21 = .ok (.invokevirtual 166, 3) := by decide +kernel
theorem dX12_ends_24 : decode cX12_ends 24 = .ok (.istore_n 3, 1) := by decide +kernel
theorem dX12_ends_25 : decode cX12_ends 25 = .ok (.aload_n 0, 1) := by decide +kernel
theorem dX12_ends_26 : decode cX12_ends 26 = .ok (.iload_n 1, 1) := by decide +kernel
theorem dX12_ends_27 : decode cX12_ends 27 = .ok (.bipush 6, 2) := by decide +kernel
theorem dX12_ends_29 : decode cX12_ends 29 = .ok (.iconst 0, 1) := by decide +kernel
theorem dX12_ends_30 : decode cX12_ends 30 = .ok (.invokevirtual 108, 3) := by decide +kernel
theorem dX12_ends_33 : decode cX12_ends 33 = .ok (.aload_n 0, 1) := by decide +kernel
theorem dX12_ends_34 : decode cX12_ends 34 = .ok (.iload_n 1, 1) := by decide +kernel
theorem dX12_ends_35 : decode cX12_ends 35 = .ok (.bipush 8, 2) := by decide +kernel
theorem dX12_ends_37 : decode cX12_ends 37 = .ok (.iconst 0, 1) := by decide +kernel
theorem dX12_ends_38 : decode cX12_ends 38 = .ok (.invokevirtual 108, 3) := by decide +kernel
theorem dX12_ends_41 : decode cX12_ends 41 = .ok (.iload_n 3, 1) := by decide +kernel
theorem dX12_ends_42 : decode cX12_ends 42 = .ok (.ifCond .lt 8, 3) := by decide +kernel
theorem dX12_ends_45 : decode cX12_ends 45 = .ok (.aload_n 0, 1) := by decide +kernel
theorem dX12_ends_46 : decode cX12_ends 46 = .ok (.iload_n 3, 1) := by decide +kernel
theorem dX12_ends_47 : decode cX12_ends 47 = .ok (.invokevirtual 153, 3) := by decide +kernel
theorem dX12_ends_50 : decode cX12_ends 50 = .ok (.iload_n 2, 1) := by decide +kernel
theorem dX12_ends_51 : decode cX12_ends 51 = .ok (.ireturn, 1) := by decide +kernel
theorem dX12_release_0 : decode cX12_release 0 = .ok (.aload_n 0, 1) := by decide +kernel
theorem dX12_release_1 : decode cX12_release 1 = .ok (.invokevirtual 112, 3) := by decide +kernel
theorem dX12_release_4 : decode cX12_release 4 = .ok (.aload_n 0, 1) := by decide +kernel
theorem dX12_release_5 : decode cX12_release 5 = .ok (.iload_n 1, 1) := by decide +kernel
theorem dX12_release_6 : decode cX12_release 6 = .ok (.iconst 1, 1) := by decide +kernel
theorem dX12_release_7 : decode cX12_release 7 = .ok (.invokevirtual 157, 3) := by decide +kernel
theorem dX12_release_10 : decode cX12_release 10 = .ok (.istore_n 2, 1) := by decide +kernel
theorem dX12_release_11 : decode cX12_release 11 = .ok (.iload_n 2, 1) := by decide +kernel
theorem dX12_release_12 : decode cX12_release 12 = .ok (.ifCond .le 11, 3) := by decide +kernel
theorem dX12_release_15 : decode cX12_release 15 = .ok (.aload_n 0, 1) := by decide +kernel
theorem dX12_release_16 : decode cX12_release 16 = .ok (.iload_n 2, 1) := by decide +kernel
theorem dX12_release_17 : decode cX12_release 17 = .ok (.invokevirtual 119, 3) := by decide +kernel
theorem dX12_release_20 : decode cX12_release 20 = .ok (.goto 12, 3) := by decide +kernel
theorem dX12_release_23 : decode cX12_release 23 = .ok (.aload_n 0, 1) := by decide +kernel
theorem dX12_release_24 : decode cX12_release 24 = .ok (.aload_n 0, 1) := by decide +kernel
theorem dX12_release_25 : decode cX12_release 25 = .ok (.iload_n 1, 1) := by decide +kernel
theorem dX12_release_26 : decode cX12_release 26 = .ok (.invokevirtual 169, 3) := by decide +kernel
theorem dX12_release_29 : decode cX12_release 29 = .ok (.invokevirtual 125, 3) := by decide +kernel
theorem dX12_release_32 : decode cX12_release 32 = .ok (.ireturn, 1) := by decide +kernel
theorem dX12_cancels_0 : decode cX12_cancels 0 = .ok (.aload_n 0, 1) := by decide +kernel
theorem dX12_cancels_1 : decode cX12_cancels 1 = .ok (.iload_n 1, 1) := by decide +kernel
theorem dX12_cancels_2 : decode cX12_cancels 2 = .ok (.bipush 6, 2) := by decide +kernel
theorem dX12_cancels_4 : decode cX12_cancels 4 = .ok (.iconst 0, 1) := by decide +kernel
theorem dX12_cancels_5 : decode cX12_cancels 5 = .ok (.invokevirtual 108, 3) := by decide +kernel
theorem dX12_cancels_8 : decode cX12_cancels 8 = .ok (.aload_n 0, 1) := by decide +kernel
theorem dX12_cancels_9 : decode cX12_cancels 9 = .ok (.aload_n 0, 1) := by decide +kernel
theorem dX12_cancels_10 : decode cX12_cancels 10 = .ok (.iload_n 1, 1) := by decide +kernel
theorem dX12_cancels_11 : decode cX12_cancels 11 = .ok (.iconst 5, 1) := by decide +kernel
theorem dX12_cancels_12 : decode cX12_cancels 12 = .ok (.invokevirtual 80, 3) := by decide +kernel
theorem dX12_cancels_15 : decode cX12_cancels 15 = .ok (.invokevirtual 172, 3) := by decide +kernel
theorem dX12_cancels_18 : decode cX12_cancels 18 = .ok (.ireturn, 1) := by decide +kernel
theorem dX12_cancel_0 : decode cX12_cancel 0 = .ok (.aload_n 0, 1) := by decide +kernel
theorem dX12_cancel_1 : decode cX12_cancel 1 = .ok (.invokevirtual 112, 3) := by decide +kernel
theorem dX12_cancel_4 : decode cX12_cancel 4 = .ok (.aload_n 0, 1) := by decide +kernel
theorem dX12_cancel_5 : decode cX12_cancel 5 = .ok (.iload_n 1, 1) := by decide +kernel
theorem dX12_cancel_6 : decode cX12_cancel 6 = .ok (.iconst 2, 1) := by decide +kernel
theorem dX12_cancel_7 : decode cX12_cancel 7 = .ok (.invokevirtual 157, 3) := by decide +kernel
theorem dX12_cancel_10 : decode cX12_cancel 10 = .ok (.istore_n 2, 1) := by decide +kernel
theorem dX12_cancel_11 : decode cX12_cancel 11 = .ok (.iload_n 2, 1) := by decide +kernel
theorem dX12_cancel_12 : decode cX12_cancel 12 = .ok (.ifCond .le 11, 3) := by decide +kernel
theorem dX12_cancel_15 : decode cX12_cancel 15 = .ok (.aload_n 0, 1) := by decide +kernel
theorem dX12_cancel_16 : decode cX12_cancel 16 = .ok (.iload_n 2, 1) := by decide +kernel
theorem dX12_cancel_17 : decode cX12_cancel 17 = .ok (.invokevirtual 119, 3) := by decide +kernel
theorem dX12_cancel_20 : decode cX12_cancel 20 = .ok (.goto 12, 3) := by decide +kernel
theorem dX12_cancel_23 : decode cX12_cancel 23 = .ok (.aload_n 0, 1) := by decide +kernel
theorem dX12_cancel_24 : decode cX12_cancel 24 = .ok (.aload_n 0, 1) := by decide +kernel
theorem dX12_cancel_25 : decode cX12_cancel 25 = .ok (.iload_n 1, 1) := by decide +kernel
theorem dX12_cancel_26 : decode cX12_cancel 26 = .ok (.invokevirtual 175, 3) := by decide +kernel
theorem dX12_cancel_29 : decode cX12_cancel 29 = .ok (.invokevirtual 125, 3) := by decide +kernel
theorem dX12_cancel_32 : decode cX12_cancel 32 = .ok (.ireturn, 1) := by decide +kernel
theorem dX12_limits_0 : decode cX12_limits 0 = .ok (.aload_n 0, 1) := by decide +kernel
theorem dX12_limits_1 : decode cX12_limits 1 = .ok (.getfield 7, 3) := by decide +kernel
theorem dX12_limits_4 : decode cX12_limits 4 = .ok (.iconst 2, 1) := by decide +kernel
theorem dX12_limits_5 : decode cX12_limits 5 = .ok (.iaload, 1) := by decide +kernel
theorem dX12_limits_6 : decode cX12_limits 6 = .ok (.istore_n 2, 1) := by decide +kernel
theorem dX12_limits_7 : decode cX12_limits 7 = .ok (.aload_n 0, 1) := by decide +kernel
theorem dX12_limits_8 : decode cX12_limits 8 = .ok (.getfield 7, 3) := by decide +kernel
theorem dX12_limits_11 : decode cX12_limits 11 = .ok (.iconst 2, 1) := by decide +kernel
theorem dX12_limits_12 : decode cX12_limits 12 = .ok (.iload_n 1, 1) := by decide +kernel
theorem dX12_limits_13 : decode cX12_limits 13 = .ok (.iastore, 1) := by decide +kernel
theorem dX12_limits_14 : decode cX12_limits 14 = .ok (.iload_n 2, 1) := by decide +kernel
theorem dX12_limits_15 : decode cX12_limits 15 = .ok (.ireturn, 1) := by decide +kernel
theorem dX12_setTurnLimit_0 : decode cX12_setTurnLimit 0 = .ok (.aload_n 0, 1) := by decide +kernel
theorem dX12_setTurnLimit_1 : decode cX12_setTurnLimit 1 = .ok (.invokevirtual 112, 3) := by decide +kernel
theorem dX12_setTurnLimit_4 : decode cX12_setTurnLimit 4 = .ok (.iload_n 1, 1) := by decide +kernel
theorem dX12_setTurnLimit_5 : decode cX12_setTurnLimit 5 = .ok (.iconst 1, 1) := by decide +kernel
theorem dX12_setTurnLimit_6 : decode cX12_setTurnLimit 6 = .ok (.bipush 60, 2) := by decide +kernel
theorem dX12_setTurnLimit_8 : decode cX12_setTurnLimit 8 = .ok (.invokestatic 76, 3) := by decide +kernel
theorem dX12_setTurnLimit_11 : decode cX12_setTurnLimit 11 = .ok (.ifCond .eq 15, 3) := by decide +kernel
theorem dX12_setTurnLimit_14 : decode cX12_setTurnLimit 14 = .ok (.aload_n 0, 1) := by decide +kernel
theorem dX12_setTurnLimit_15 : decode cX12_setTurnLimit 15 = .ok (.aload_n 0, 1) := by decide +kernel
theorem dX12_setTurnLimit_16 : decode cX12_setTurnLimit 16 = .ok (.iload_n 1, 1) := by decide +kernel
theorem dX12_setTurnLimit_17 : decode cX12_setTurnLimit 17 = .ok (.invokevirtual 178, 3) := by decide +kernel
theorem dX12_setTurnLimit_20 : decode cX12_setTurnLimit 20 = .ok (.invokevirtual 125, 3) := by decide +kernel
theorem dX12_setTurnLimit_23 : decode cX12_setTurnLimit 23 = .ok (.goto 8, 3) := by decide +kernel
theorem dX12_setTurnLimit_26 : decode cX12_setTurnLimit 26 = .ok (.aload_n 0, 1) := by decide +kernel
theorem dX12_setTurnLimit_27 : decode cX12_setTurnLimit 27 = .ok (.iconst 1, 1) := by decide +kernel
theorem dX12_setTurnLimit_28 : decode cX12_setTurnLimit 28 = .ok (.invokevirtual 119, 3) := by decide +kernel
theorem dX12_setTurnLimit_31 : decode cX12_setTurnLimit 31 = .ok (.ireturn, 1) := by decide +kernel
theorem dX12_receives_0 : decode cX12_receives 0 = .ok (.aload_n 0, 1) := by decide +kernel
theorem dX12_receives_1 : decode cX12_receives 1 = .ok (.aload_n 0, 1) := by decide +kernel
theorem dX12_receives_2 : decode cX12_receives 2 = .ok (.iload_n 1, 1) := by decide +kernel
theorem dX12_receives_3 : decode cX12_receives 3 = .ok (.iconst 5, 1) := by decide +kernel
theorem dX12_receives_4 : decode cX12_receives 4 = .ok (.invokevirtual 80, 3) := by decide +kernel
theorem dX12_receives_7 : decode cX12_receives 7 = .ok (.invokevirtual 150, 3) := by decide +kernel
theorem dX12_receives_10 : decode cX12_receives 10 = .ok (.istore_n 2, 1) := by decide +kernel
theorem dX12_receives_11 : decode cX12_receives 11 = .ok (.iload_n 2, 1) := by decide +kernel
theorem dX12_receives_12 : decode cX12_receives 12 = .ok (.ifCond .lt 24, 3) := by decide +kernel
theorem dX12_receives_15 : decode cX12_receives 15 = .ok (.aload_n 0, 1) := by decide +kernel
theorem dX12_receives_16 : decode cX12_receives 16 = .ok (.iload_n 1, 1) := by decide +kernel
theorem dX12_receives_17 : decode cX12_receives 17 = .ok (.iload_n 2, 1) := by decide +kernel
theorem dX12_receives_18 : decode cX12_receives 18 = .ok (.invokevirtual 128, 3) := by decide +kernel
theorem dX12_receives_21 : decode cX12_receives 21 = .ok (.ifCond .eq 15, 3) := by decide +kernel
theorem dX12_receives_24 : decode cX12_receives 24 = .ok (.aload_n 0, 1) := by decide +kernel
theorem dX12_receives_25 : decode cX12_receives 25 = .ok (.iload_n 1, 1) := by decide +kernel
theorem dX12_receives_26 : decode cX12_receives 26 = .ok (.invokevirtual 181, 3) := by decide +kernel
theorem dX12_receives_29 : decode cX12_receives 29 = .ok (.ifCond .ne 7, 3) := by decide +kernel
theorem dX12_receives_32 : decode cX12_receives 32 = .ok (.iconst 1, 1) := by decide +kernel
theorem dX12_receives_33 : decode cX12_receives 33 = .ok (.goto 4, 3) := by decide +kernel
theorem dX12_receives_36 : decode cX12_receives 36 = .ok (.iconst 0, 1) := by decide +kernel
theorem dX12_receives_37 : decode cX12_receives 37 = .ok (.ireturn, 1) := by decide +kernel
theorem dX12_minutePasses_0 : decode cX12_minutePasses 0 = .ok (.iconst 0, 1) := by decide +kernel
theorem dX12_minutePasses_1 : decode cX12_minutePasses 1 = .ok (.istore_n 1, 1) := by decide +kernel
theorem dX12_minutePasses_2 : decode cX12_minutePasses 2 = .ok (.iconst 0, 1) := by decide +kernel
theorem dX12_minutePasses_3 : decode cX12_minutePasses 3 = .ok (.istore_n 2, 1) := by decide +kernel
theorem dX12_minutePasses_4 : decode cX12_minutePasses 4 = .ok (.iconst 0, 1) := by decide +kernel
theorem dX12_minutePasses_5 : decode cX12_minutePasses 5 = .ok (.istore_n 3, 1) := by decide +kernel
theorem dX12_minutePasses_6 : decode cX12_minutePasses 6 = .ok (.iload_n 3, 1) := by decide +kernel
theorem dX12_minutePasses_7 : decode cX12_minutePasses 7 = .ok (.aload_n 0, 1) := by decide +kernel
theorem dX12_minutePasses_8 : decode cX12_minutePasses 8 = .ok (.getfield 7, 3) := by decide +kernel
theorem dX12_minutePasses_11 : decode cX12_minutePasses 11 = .ok (.iconst 0, 1) := by decide +kernel
theorem dX12_minutePasses_12 : decode cX12_minutePasses 12 = .ok (.iaload, 1) := by decide +kernel
theorem dX12_minutePasses_13 : decode cX12_minutePasses 13 = .ok (.if_icmp .ge 104, 3) := by decide +kernel
theorem dX12_minutePasses_16 : decode cX12_minutePasses 16 = .ok (.aload_n 0, 1) := by decide +kernel
theorem dX12_minutePasses_17 : decode cX12_minutePasses 17 = .ok (.iload_n 3, 1) := by decide +kernel
theorem dX12_minutePasses_18 : decode cX12_minutePasses 18 = .ok (.invokevirtual 184, 3) := by decide +kernel
theorem dX12_minutePasses_21 : decode cX12_minutePasses 21 = .ok (.ifCond .eq 22, 3) := by decide +kernel
theorem dX12_minutePasses_24 : decode cX12_minutePasses 24 = .ok (.aload_n 0, 1) := by decide +kernel
theorem dX12_minutePasses_25 : decode cX12_minutePasses 25 = .ok (.iload_n 3, 1) := by decide +kernel
theorem dX12_minutePasses_26 : decode cX12_minutePasses 26 = .ok (.bipush 10, 2) := by decide +kernel
theorem dX12_minutePasses_28 : decode cX12_minutePasses 28 = .ok (.aload_n 0, 1) := by decide +kernel
theorem dX12_minutePasses_29 : decode cX12_minutePasses 29 = .ok (.iload_n 3, 1) := by decide +kernel
theorem dX12_minutePasses_30 : decode cX12_minutePasses 30 = .ok (.bipush 10, 2) := by decide +kernel
theorem dX12_minutePasses_32 : decode cX12_minutePasses 32 = .ok (.invokevirtual 80, 3) := by decide +kernel
theorem dX12_minutePasses_35 : decode cX12_minutePasses 35 = .ok (.iconst 1, 1) := by decide +kernel
theorem dX12_minutePasses_36 : decode cX12_minutePasses 36 = .ok (.iadd, 1) := by decide +kernel
theorem dX12_minutePasses_37 : decode cX12_minutePasses 37 = .ok (.invokevirtual 108, 3) := by decide +kernel
theorem dX12_minutePasses_40 : decode cX12_minutePasses 40 = .ok (.iinc 1 1, 3) := by decide +kernel
theorem dX12_minutePasses_43 : decode cX12_minutePasses 43 = .ok (.aload_n 0, 1) := by decide +kernel
theorem dX12_minutePasses_44 : decode cX12_minutePasses 44 = .ok (.iload_n 3, 1) := by decide +kernel
theorem dX12_minutePasses_45 : decode cX12_minutePasses 45 = .ok (.bipush 6, 2) := by decide +kernel
theorem dX12_minutePasses_47 : decode cX12_minutePasses 47 = .ok (.invokevirtual 80, 3) := by decide +kernel
theorem dX12_minutePasses_50 : decode cX12_minutePasses 50 = .ok (.iconst 1, 1) := by decide +kernel
theorem dX12_minutePasses_51 : decode cX12_minutePasses 51 = .ok (.if_icmp .eq 6, 3) := by decide +kernel
theorem dX12_minutePasses_54 : decode cX12_minutePasses 54 = .ok (.goto 57, 3) := by decide +kernel
theorem dX12_minutePasses_57 : decode cX12_minutePasses 57 = .ok (.aload_n 0, 1) := by decide +kernel
theorem dX12_minutePasses_58 : decode cX12_minutePasses 58 = .ok (.iload_n 3, 1) := by decide +kernel
theorem dX12_minutePasses_59 : decode cX12_minutePasses 59 = .ok (.bipush 9, 2) := by decide +kernel
theorem dX12_minutePasses_61 : decode cX12_minutePasses 61 = .ok (.aload_n 0, 1) := by decide +kernel
theorem dX12_minutePasses_62 : decode cX12_minutePasses 62 = .ok (.iload_n 3, 1) := by decide +kernel
theorem dX12_minutePasses_63 : decode cX12_minutePasses 63 = .ok (.bipush 9, 2) := by decide +kernel
theorem dX12_minutePasses_65 : decode cX12_minutePasses 65 = .ok (.invokevirtual 80, 3) := by decide +kernel
theorem dX12_minutePasses_68 : decode cX12_minutePasses 68 = .ok (.iconst 1, 1) := by decide +kernel
theorem dX12_minutePasses_69 : decode cX12_minutePasses 69 = .ok (.iadd, 1) := by decide +kernel
theorem dX12_minutePasses_70 : decode cX12_minutePasses 70 = .ok (.invokevirtual 108, 3) := by decide +kernel
theorem dX12_minutePasses_73 : decode cX12_minutePasses 73 = .ok (.aload_n 0, 1) := by decide +kernel
theorem dX12_minutePasses_74 : decode cX12_minutePasses 74 = .ok (.iload_n 3, 1) := by decide +kernel
theorem dX12_minutePasses_75 : decode cX12_minutePasses 75 = .ok (.bipush 8, 2) := by decide +kernel
theorem dX12_minutePasses_77 : decode cX12_minutePasses 77 = .ok (.aload_n 0, 1) := by decide +kernel
theorem dX12_minutePasses_78 : decode cX12_minutePasses 78 = .ok (.iload_n 3, 1) := by decide +kernel
theorem dX12_minutePasses_79 : decode cX12_minutePasses 79 = .ok (.bipush 8, 2) := by decide +kernel
theorem dX12_minutePasses_81 : decode cX12_minutePasses 81 = .ok (.invokevirtual 80, 3) := by decide +kernel
theorem dX12_minutePasses_84 : decode cX12_minutePasses 84 = .ok (.iconst 1, 1) := by decide +kernel
theorem dX12_minutePasses_85 : decode cX12_minutePasses 85 = .ok (.iadd, 1) := by decide +kernel
theorem dX12_minutePasses_86 : decode cX12_minutePasses 86 = .ok (.invokevirtual 108, 3) := by decide +kernel
theorem dX12_minutePasses_89 : decode cX12_minutePasses 89 = .ok (.aload_n 0, 1) := by decide +kernel
theorem dX12_minutePasses_90 : decode cX12_minutePasses 90 = .ok (.iload_n 3, 1) := by decide +kernel
theorem dX12_minutePasses_91 : decode cX12_minutePasses 91 = .ok (.bipush 8, 2) := by decide +kernel
theorem dX12_minutePasses_93 : decode cX12_minutePasses 93 = .ok (.invokevirtual 80, 3) := by decide +kernel
theorem dX12_minutePasses_96 : decode cX12_minutePasses 96 = .ok (.aload_n 0, 1) := by decide +kernel
theorem dX12_minutePasses_97 : decode cX12_minutePasses 97 = .ok (.getfield 7, 3) := by decide +kernel
theorem dX12_minutePasses_100 : decode cX12_minutePasses 100 = .ok (.iconst 2, 1) := by decide +kernel
theorem dX12_minutePasses_101 : decode cX12_minutePasses 101 = .ok (.iaload, 1) := by decide +kernel
theorem dX12_minutePasses_102 : decode cX12_minutePasses 102 = .ok (.if_icmp .lt 9, 3) := by decide +kernel
theorem dX12_minutePasses_105 : decode cX12_minutePasses 105 = .ok (.iload_n 2, 1) := by decide +kernel
theorem dX12_minutePasses_106 : decode cX12_minutePasses 106 = .ok (.iconst 1, 1) := by decide +kernel
theorem dX12_minutePasses_107 : decode cX12_minutePasses 107 = .ok (.iload_n 3, 1) := by decide +kernel
theorem dX12_minutePasses_108 : decode cX12_minutePasses 108 = .ok (.ishl, 1) := by decide +kernel
theorem dX12_minutePasses_109 : decode cX12_minutePasses 109 = .ok (.ior, 1) := by decide +kernel
theorem dX12_minutePasses_110 : decode cX12_minutePasses 110 = .ok (.istore_n 2, 1) := by decide +kernel
theorem dX12_minutePasses_111 : decode cX12_minutePasses 111 = .ok (.iinc 3 1, 3) := by decide +kernel
theorem dX12_minutePasses_114 : decode cX12_minutePasses 114 = .ok (.goto (-108), 3) := by decide +kernel
theorem dX12_minutePasses_117 : decode cX12_minutePasses 117 = .ok (.aload_n 0, 1) := by decide +kernel
theorem dX12_minutePasses_118 : decode cX12_minutePasses 118 = .ok (.getfield 7, 3) := by decide +kernel
theorem dX12_minutePasses_121 : decode cX12_minutePasses 121 = .ok (.iconst 1, 1) := by decide +kernel
theorem dX12_minutePasses_122 : decode cX12_minutePasses 122 = .ok (.dup2, 1) := by decide +kernel
theorem dX12_minutePasses_123 : decode cX12_minutePasses 123 = .ok (.iaload, 1) := by decide +kernel
theorem dX12_minutePasses_124 : decode cX12_minutePasses 124 = .ok (.iconst 1, 1) := by decide +kernel
theorem dX12_minutePasses_125 : decode cX12_minutePasses 125 = .ok (.iadd, 1) := by decide +kernel
theorem dX12_minutePasses_126 : decode cX12_minutePasses 126 = .ok (.iastore, 1) := by decide +kernel
theorem dX12_minutePasses_127 : decode cX12_minutePasses 127 = .ok (.iconst 0, 1) := by decide +kernel
theorem dX12_minutePasses_128 : decode cX12_minutePasses 128 = .ok (.istore_n 3, 1) := by decide +kernel
theorem dX12_minutePasses_129 : decode cX12_minutePasses 129 = .ok (.iconst 0, 1) := by decide +kernel
theorem dX12_minutePasses_130 : decode cX12_minutePasses 130 = .ok (.istore 4, 2) := by decide +kernel
theorem dX12_minutePasses_132 : decode cX12_minutePasses 132 = .ok (.iload 4, 2) := by decide +kernel
theorem dX12_minutePasses_134 : decode cX12_minutePasses 134 = .ok (.aload_n 0, 1) := by decide +kernel
theorem dX12_minutePasses_135 : decode cX12_minutePasses 135 = .ok (.getfield 7, 3) := by decide +kernel
theorem dX12_minutePasses_138 : decode cX12_minutePasses 138 = .ok (.iconst 0, 1) := by decide +kernel
theorem dX12_minutePasses_139 : decode cX12_minutePasses 139 = .ok (.iaload, 1) := by decide +kernel
theorem dX12_minutePasses_140 : decode cX12_minutePasses 140 = .ok (.if_icmp .ge 26, 3) := by decide +kernel
theorem dX12_minutePasses_143 : decode cX12_minutePasses 143 = .ok (.iload_n 2, 1) := by decide +kernel
theorem dX12_minutePasses_144 : decode cX12_minutePasses 144 = .ok (.iload 4, 2) := by decide +kernel
theorem dX12_minutePasses_146 : decode cX12_minutePasses 146 = .ok (.ishr, 1) := by decide +kernel
theorem dX12_minutePasses_147 : decode cX12_minutePasses 147 = .ok (.iconst 1, 1) := by decide +kernel
theorem dX12_minutePasses_148 : decode cX12_minutePasses 148 = .ok (.iand, 1) := by decide +kernel
theorem dX12_minutePasses_149 : decode cX12_minutePasses 149 = .ok (.iconst 1, 1) := by decide +kernel
theorem dX12_minutePasses_150 : decode cX12_minutePasses 150 = .ok (.if_icmp .ne 10, 3) := by decide +kernel
theorem dX12_minutePasses_153 : decode cX12_minutePasses 153 = .ok (.aload_n 0, 1) := by decide +kernel
theorem dX12_minutePasses_154 : decode cX12_minutePasses 154 = .ok (.iload 4, 2) := by decide +kernel
theorem dX12_minutePasses_156 : decode cX12_minutePasses 156 = .ok (.invokevirtual 169, 3) := by decide +kernel
theorem dX12_minutePasses_159 : decode cX12_minutePasses 159 = .ok (.istore_n 3, 1) := by decide +kernel
theorem dX12_minutePasses_160 : decode cX12_minutePasses 160 = .ok (.iinc 4 1, 3) := by decide +kernel
theorem dX12_minutePasses_163 : decode cX12_minutePasses 163 = .ok (.goto (-31), 3) := by decide +kernel
theorem dX12_minutePasses_166 : decode cX12_minutePasses 166 = .ok (.iload_n 1, 1) := by decide +kernel
theorem dX12_minutePasses_167 : decode cX12_minutePasses 167 = .ok (.ireturn, 1) := by decide +kernel
theorem dX12_passes_0 : decode cX12_passes 0 = .ok (.iconst 0, 1) := by decide +kernel
theorem dX12_passes_1 : decode cX12_passes 1 = .ok (.istore_n 2, 1) := by decide +kernel
theorem dX12_passes_2 : decode cX12_passes 2 = .ok (.iconst 0, 1) := by decide +kernel
theorem dX12_passes_3 : decode cX12_passes 3 = .ok (.istore_n 3, 1) := by decide +kernel
theorem dX12_passes_4 : decode cX12_passes 4 = .ok (.iload_n 3, 1) := by decide +kernel
theorem dX12_passes_5 : decode cX12_passes 5 = .ok (.iload_n 1, 1) := by decide +kernel
theorem dX12_passes_6 : decode cX12_passes 6 = .ok (.if_icmp .ge 16, 3) := by decide +kernel
theorem dX12_passes_9 : decode cX12_passes 9 = .ok (.iload_n 2, 1) := by decide +kernel
theorem dX12_passes_10 : decode cX12_passes 10 = .ok (.aload_n 0, 1) := by decide +kernel
theorem dX12_passes_11 : decode cX12_passes 11 = .ok (.invokevirtual 187, 3) := by decide +kernel
theorem dX12_passes_14 : decode cX12_passes 14 = .ok (.iadd, 1) := by decide +kernel
theorem dX12_passes_15 : decode cX12_passes 15 = .ok (.istore_n 2, 1) := by decide +kernel
theorem dX12_passes_16 : decode cX12_passes 16 = .ok (.iinc 3 1, 3) := by decide +kernel
theorem dX12_passes_19 : decode cX12_passes 19 = .ok (.goto (-15), 3) := by decide +kernel
theorem dX12_passes_22 : decode cX12_passes 22 = .ok (.iload_n 2, 1) := by decide +kernel
theorem dX12_passes_23 : decode cX12_passes 23 = .ok (.ireturn, 1) := by decide +kernel
theorem dX12_pass_0 : decode cX12_pass 0 = .ok (.aload_n 0, 1) := by decide +kernel
theorem dX12_pass_1 : decode cX12_pass 1 = .ok (.invokevirtual 112, 3) := by decide +kernel
theorem dX12_pass_4 : decode cX12_pass 4 = .ok (.iload_n 1, 1) := by decide +kernel
theorem dX12_pass_5 : decode cX12_pass 5 = .ok (.iconst 1, 1) := by decide +kernel
theorem dX12_pass_6 : decode cX12_pass 6 = .ok (.bipush 60, 2) := by decide +kernel
theorem dX12_pass_8 : decode cX12_pass 8 = .ok (.invokestatic 76, 3) := by decide +kernel
theorem dX12_pass_11 : decode cX12_pass 11 = .ok (.ifCond .eq 15, 3) := by decide +kernel
theorem dX12_pass_14 : decode cX12_pass 14 = .ok (.aload_n 0, 1) := by decide +kernel
theorem dX12_pass_15 : decode cX12_pass 15 = .ok (.aload_n 0, 1) := by decide +kernel
theorem dX12_pass_16 : decode cX12_pass 16 = .ok (.iload_n 1, 1) := by decide +kernel
theorem dX12_pass_17 : decode cX12_pass 17 = .ok (.invokevirtual 191, 3) := by decide +kernel
theorem dX12_pass_20 : decode cX12_pass 20 = .ok (.invokevirtual 125, 3) := by decide +kernel
theorem dX12_pass_23 : decode cX12_pass 23 = .ok (.goto 8, 3) := by decide +kernel
theorem dX12_pass_26 : decode cX12_pass 26 = .ok (.aload_n 0, 1) := by decide +kernel
theorem dX12_pass_27 : decode cX12_pass 27 = .ok (.iconst 1, 1) := by decide +kernel
theorem dX12_pass_28 : decode cX12_pass 28 = .ok (.invokevirtual 119, 3) := by decide +kernel
theorem dX12_pass_31 : decode cX12_pass 31 = .ok (.ireturn, 1) := by decide +kernel
theorem dX12_plain_0 : decode cX12_plain 0 = .ok (.aload_n 0, 1) := by decide +kernel
theorem dX12_plain_1 : decode cX12_plain 1 = .ok (.iconst 0, 1) := by decide +kernel
theorem dX12_plain_2 : decode cX12_plain 2 = .ok (.putfield 22, 3) := by decide +kernel
theorem dX12_plain_5 : decode cX12_plain 5 = .ok (.iload_n 1, 1) := by decide +kernel
theorem dX12_plain_6 : decode cX12_plain 6 = .ok (.ireturn, 1) := by decide +kernel
theorem dX12_ofStation_0 : decode cX12_ofStation 0 = .ok (.aload_n 0, 1) := by decide +kernel
theorem dX12_ofStation_1 : decode cX12_ofStation 1 = .ok (.aload_n 0, 1) := by decide +kernel
theorem dX12_ofStation_2 : decode cX12_ofStation 2 = .ok (.iload_n 1, 1) := by decide +kernel
theorem dX12_ofStation_3 : decode cX12_ofStation 3 = .ok (.invokevirtual 131, 3) := by decide +kernel
theorem dX12_ofStation_6 : decode cX12_ofStation 6 = .ok (.ifCond .eq 7, 3) := by decide +kernel
theorem dX12_ofStation_9 : decode cX12_ofStation 9 = .ok (.iconst 0, 1) := by decide +kernel
theorem dX12_ofStation_10 : decode cX12_ofStation 10 = .ok (.goto 4, 3) := by decide +kernel
theorem dX12_ofStation_13 : decode cX12_ofStation 13 = .ok (.iconst 1, 1) := by decide +kernel
theorem dX12_ofStation_14 : decode cX12_ofStation 14 = .ok (.putfield 22, 3) := by decide +kernel
theorem dX12_ofStation_17 : decode cX12_ofStation 17 = .ok (.aload_n 0, 1) := by decide +kernel
theorem dX12_ofStation_18 : decode cX12_ofStation 18 = .ok (.getfield 22, 3) := by decide +kernel
theorem dX12_ofStation_21 : decode cX12_ofStation 21 = .ok (.ifCond .le 7, 3) := by decide +kernel
theorem dX12_ofStation_24 : decode cX12_ofStation 24 = .ok (.iconst 0, 1) := by decide +kernel
theorem dX12_ofStation_25 : decode cX12_ofStation 25 = .ok (.goto 9, 3) := by decide +kernel
theorem dX12_ofStation_28 : decode cX12_ofStation 28 = .ok (.aload_n 0, 1) := by decide +kernel
theorem dX12_ofStation_29 : decode cX12_ofStation 29 = .ok (.iload_n 1, 1) := by decide +kernel
theorem dX12_ofStation_30 : decode cX12_ofStation 30 = .ok (.iload_n 2, 1) := by decide +kernel
theorem dX12_ofStation_31 : decode cX12_ofStation 31 = .ok (.invokevirtual 80, 3) := by decide +kernel
theorem dX12_ofStation_34 : decode cX12_ofStation 34 = .ok (.ireturn, 1) := by decide +kernel
theorem dX12_stations_0 : decode cX12_stations 0 = .ok (.aload_n 0, 1) := by decide +kernel
theorem dX12_stations_1 : decode cX12_stations 1 = .ok (.aload_n 0, 1) := by decide +kernel
theorem dX12_stations_2 : decode cX12_stations 2 = .ok (.getfield 7, 3) := by decide +kernel
theorem dX12_stations_5 : decode cX12_stations 5 = .ok (.iconst 0, 1) := by decide +kernel
theorem dX12_stations_6 : decode cX12_stations 6 = .ok (.iaload, 1) := by decide +kernel
theorem dX12_stations_7 : decode cX12_stations 7 = .ok (.invokevirtual 194, 3) := by decide +kernel
theorem dX12_stations_10 : decode cX12_stations 10 = .ok (.ireturn, 1) := by decide +kernel
theorem dX12_find_0 : decode cX12_find 0 = .ok (.aload_n 0, 1) := by decide +kernel
theorem dX12_find_1 : decode cX12_find 1 = .ok (.iconst 0, 1) := by decide +kernel
theorem dX12_find_2 : decode cX12_find 2 = .ok (.putfield 22, 3) := by decide +kernel
theorem dX12_find_5 : decode cX12_find 5 = .ok (.aload_n 0, 1) := by decide +kernel
theorem dX12_find_6 : decode cX12_find 6 = .ok (.iload_n 1, 1) := by decide +kernel
theorem dX12_find_7 : decode cX12_find 7 = .ok (.iload_n 2, 1) := by decide +kernel
theorem dX12_find_8 : decode cX12_find 8 = .ok (.invokevirtual 105, 3) := by decide +kernel
theorem dX12_find_11 : decode cX12_find 11 = .ok (.istore_n 3, 1) := by decide +kernel
theorem dX12_find_12 : decode cX12_find 12 = .ok (.iload_n 3, 1) := by decide +kernel
theorem dX12_find_13 : decode cX12_find 13 = .ok (.ifCond .ge 11, 3) := by decide +kernel
theorem dX12_find_16 : decode cX12_find 16 = .ok (.aload_n 0, 1) := by decide +kernel
theorem dX12_find_17 : decode cX12_find 17 = .ok (.iconst 1, 1) := by decide +kernel
theorem dX12_find_18 : decode cX12_find 18 = .ok (.invokevirtual 119, 3) := by decide +kernel
theorem dX12_find_21 : decode cX12_find 21 = .ok (.goto 4, 3) := by decide +kernel
theorem dX12_find_24 : decode cX12_find 24 = .ok (.iload_n 3, 1) := by decide +kernel
theorem dX12_find_25 : decode cX12_find 25 = .ok (.ireturn, 1) := by decide +kernel
theorem dX12_letter_0 : decode cX12_letter 0 = .ok (.aload_n 0, 1) := by decide +kernel
theorem dX12_letter_1 : decode cX12_letter 1 = .ok (.iload_n 1, 1) := by decide +kernel
theorem dX12_letter_2 : decode cX12_letter 2 = .ok (.iconst 0, 1) := by decide +kernel
theorem dX12_letter_3 : decode cX12_letter 3 = .ok (.invokevirtual 197, 3) := by decide +kernel
theorem dX12_letter_6 : decode cX12_letter 6 = .ok (.istore_n 2, 1) := by decide +kernel
theorem dX12_letter_7 : decode cX12_letter 7 = .ok (.aload_n 0, 1) := by decide +kernel
theorem dX12_letter_8 : decode cX12_letter 8 = .ok (.getfield 22, 3) := by decide +kernel
theorem dX12_letter_11 : decode cX12_letter 11 = .ok (.ifCond .le 8, 3) := by decide +kernel
theorem dX12_letter_14 : decode cX12_letter 14 = .ok (.bipush 32, 2) := by decide +kernel
theorem dX12_letter_16 : decode cX12_letter 16 = .ok (.goto 5, 3) := by decide +kernel
theorem dX12_letter_19 : decode cX12_letter 19 = .ok (.iload_n 2, 1) := by decide +kernel
theorem dX12_letter_20 : decode cX12_letter 20 = .ok (.i2c, 1) := by decide +kernel
theorem dX12_letter_21 : decode cX12_letter 21 = .ok (.ireturn, 1) := by decide +kernel
theorem dX12_digit_0 : decode cX12_digit 0 = .ok (.aload_n 0, 1) := by decide +kernel
theorem dX12_digit_1 : decode cX12_digit 1 = .ok (.iload_n 1, 1) := by decide +kernel
theorem dX12_digit_2 : decode cX12_digit 2 = .ok (.iconst 1, 1) := by decide +kernel
theorem dX12_digit_3 : decode cX12_digit 3 = .ok (.invokevirtual 197, 3) := by decide +kernel
theorem dX12_digit_6 : decode cX12_digit 6 = .ok (.ireturn, 1) := by decide +kernel
theorem dX12_channel_0 : decode cX12_channel 0 = .ok (.aload_n 0, 1) := by decide +kernel
theorem dX12_channel_1 : decode cX12_channel 1 = .ok (.iload_n 1, 1) := by decide +kernel
theorem dX12_channel_2 : decode cX12_channel 2 = .ok (.iconst 5, 1) := by decide +kernel
theorem dX12_channel_3 : decode cX12_channel 3 = .ok (.invokevirtual 197, 3) := by decide +kernel
theorem dX12_channel_6 : decode cX12_channel 6 = .ok (.ireturn, 1) := by decide +kernel
theorem dX12_power_0 : decode cX12_power 0 = .ok (.aload_n 0, 1) := by decide +kernel
theorem dX12_power_1 : decode cX12_power 1 = .ok (.iload_n 1, 1) := by decide +kernel
theorem dX12_power_2 : decode cX12_power 2 = .ok (.iconst 4, 1) := by decide +kernel
theorem dX12_power_3 : decode cX12_power 3 = .ok (.invokevirtual 197, 3) := by decide +kernel
theorem dX12_power_6 : decode cX12_power 6 = .ok (.ireturn, 1) := by decide +kernel
theorem dX12_isSpeaking_0 : decode cX12_isSpeaking 0 = .ok (.aload_n 0, 1) := by decide +kernel
theorem dX12_isSpeaking_1 : decode cX12_isSpeaking 1 = .ok (.iload_n 1, 1) := by decide +kernel
theorem dX12_isSpeaking_2 : decode cX12_isSpeaking 2 = .ok (.bipush 6, 2) := by decide +kernel
theorem dX12_isSpeaking_4 : decode cX12_isSpeaking 4 = .ok (.invokevirtual 197, 3) := by decide +kernel
theorem dX12_isSpeaking_7 : decode cX12_isSpeaking 7 = .ok (.iconst 1, 1) := by decide +kernel
theorem dX12_isSpeaking_8 : decode cX12_isSpeaking 8 = .ok (.if_icmp .ne 7, 3) := by decide +kernel
theorem dX12_isSpeaking_11 : decode cX12_isSpeaking 11 = .ok (.iconst 1, 1) := by decide +kernel
theorem dX12_isSpeaking_12 : decode cX12_isSpeaking 12 = .ok (.goto 4, 3) := by decide +kernel
theorem dX12_isSpeaking_15 : decode cX12_isSpeaking 15 = .ok (.iconst 0, 1) := by decide +kernel
theorem dX12_isSpeaking_16 : decode cX12_isSpeaking 16 = .ok (.ireturn, 1) := by decide +kernel
theorem dX12_isWaiting_0 : decode cX12_isWaiting 0 = .ok (.aload_n 0, 1) := by decide +kernel
theorem dX12_isWaiting_1 : decode cX12_isWaiting 1 = .ok (.iload_n 1, 1) := by decide +kernel
theorem dX12_isWaiting_2 : decode cX12_isWaiting 2 = .ok (.bipush 6, 2) := by decide +kernel
theorem dX12_isWaiting_4 : decode cX12_isWaiting 4 = .ok (.invokevirtual 197, 3) := by decide +kernel
theorem dX12_isWaiting_7 : decode cX12_isWaiting 7 = .ok (.iconst 2, 1) := by decide +kernel
theorem dX12_isWaiting_8 : decode cX12_isWaiting 8 = .ok (.if_icmp .ne 7, 3) := by decide +kernel
theorem dX12_isWaiting_11 : decode cX12_isWaiting 11 = .ok (.iconst 1, 1) := by decide +kernel
theorem dX12_isWaiting_12 : decode cX12_isWaiting 12 = .ok (.goto 4, 3) := by decide +kernel
theorem dX12_isWaiting_15 : decode cX12_isWaiting 15 = .ok (.iconst 0, 1) := by decide +kernel
theorem dX12_isWaiting_16 : decode cX12_isWaiting 16 = .ok (.ireturn, 1) := by decide +kernel
theorem dX12_minutesSpoken_0 : decode cX12_minutesSpoken 0 = .ok (.aload_n 0, 1) := by decide +kernel
theorem dX12_minutesSpoken_1 : decode cX12_minutesSpoken 1 = .ok (.iload_n 1, 1) := by decide +kernel
theorem dX12_minutesSpoken_2 : decode cX12_minutesSpoken 2 = .ok (.bipush 9, 2) := by decide +kernel
theorem dX12_minutesSpoken_4 : decode cX12_minutesSpoken 4 = .ok (.invokevirtual 197, 3) := by decide +kernel
theorem dX12_minutesSpoken_7 : decode cX12_minutesSpoken 7 = .ok (.ireturn, 1) := by decide +kernel
theorem dX12_minutesReceived_0 : decode cX12_minutesReceived 0 = .ok (.aload_n 0, 1) := by decide +kernel
theorem dX12_minutesReceived_1 : decode cX12_minutesReceived 1 = .ok (.iload_n 1, 1) := by decide +kernel
theorem dX12_minutesReceived_2 : decode cX12_minutesReceived 2 = .ok (.bipush 10, 2) := by decide +kernel
theorem dX12_minutesReceived_4 : decode cX12_minutesReceived 4 = .ok (.invokevirtual 197, 3) := by decide +kernel
theorem dX12_minutesReceived_7 : decode cX12_minutesReceived 7 = .ok (.ireturn, 1) := by decide +kernel
theorem dX12_isAhead_0 : decode cX12_isAhead 0 = .ok (.aload_n 0, 1) := by decide +kernel
theorem dX12_isAhead_1 : decode cX12_isAhead 1 = .ok (.iload_n 1, 1) := by decide +kernel
theorem dX12_isAhead_2 : decode cX12_isAhead 2 = .ok (.bipush 9, 2) := by decide +kernel
theorem dX12_isAhead_4 : decode cX12_isAhead 4 = .ok (.invokevirtual 80, 3) := by decide +kernel
theorem dX12_isAhead_7 : decode cX12_isAhead 7 = .ok (.aload_n 0, 1) := by decide +kernel
theorem dX12_isAhead_8 : decode cX12_isAhead 8 = .ok (.iload_n 2, 1) := by decide +kernel
theorem dX12_isAhead_9 : decode cX12_isAhead 9 = .ok (.bipush 9, 2) := by decide +kernel
theorem dX12_isAhead_11 : decode cX12_isAhead 11 = .ok (.invokevirtual 80, 3) := by decide +kernel
theorem dX12_isAhead_14 : decode cX12_isAhead 14 = .ok (.if_icmp .eq 26, 3) := by decide +kernel
theorem dX12_isAhead_17 : decode cX12_isAhead 17 = .ok (.aload_n 0, 1) := by decide +kernel
theorem dX12_isAhead_18 : decode cX12_isAhead 18 = .ok (.iload_n 1, 1) := by decide +kernel
theorem dX12_isAhead_19 : decode cX12_isAhead 19 = .ok (.bipush 9, 2) := by decide +kernel
theorem dX12_isAhead_21 : decode cX12_isAhead 21 = .ok (.invokevirtual 80, 3) := by decide +kernel
theorem dX12_isAhead_24 : decode cX12_isAhead 24 = .ok (.aload_n 0, 1) := by decide +kernel
theorem dX12_isAhead_25 : decode cX12_isAhead 25 = .ok (.iload_n 2, 1) := by decide +kernel
theorem dX12_isAhead_26 : decode cX12_isAhead 26 = .ok (.bipush 9, 2) := by decide +kernel
theorem dX12_isAhead_28 : decode cX12_isAhead 28 = .ok (.invokevirtual 80, 3) := by decide +kernel
theorem dX12_isAhead_31 : decode cX12_isAhead 31 = .ok (.if_icmp .le 7, 3) := by decide +kernel
theorem dX12_isAhead_34 : decode cX12_isAhead 34 = .ok (.iconst 1, 1) := by decide +kernel
theorem dX12_isAhead_35 : decode cX12_isAhead 35 = .ok (.goto 4, 3) := by decide +kernel
theorem dX12_isAhead_38 : decode cX12_isAhead 38 = .ok (.iconst 0, 1) := by decide +kernel
theorem dX12_isAhead_39 : decode cX12_isAhead 39 = .ok (.ireturn, 1) := by decide +kernel
theorem dX12_isAhead_40 : decode cX12_isAhead 40 = .ok (.aload_n 0, 1) := by decide +kernel
theorem dX12_isAhead_41 : decode cX12_isAhead 41 = .ok (.iload_n 1, 1) := by decide +kernel
theorem dX12_isAhead_42 : decode cX12_isAhead 42 = .ok (.bipush 10, 2) := by decide +kernel
theorem dX12_isAhead_44 : decode cX12_isAhead 44 = .ok (.invokevirtual 80, 3) := by decide +kernel
theorem dX12_isAhead_47 : decode cX12_isAhead 47 = .ok (.aload_n 0, 1) := by decide +kernel
theorem dX12_isAhead_48 : decode cX12_isAhead 48 = .ok (.iload_n 2, 1) := by decide +kernel
theorem dX12_isAhead_49 : decode cX12_isAhead 49 = .ok (.bipush 10, 2) := by decide +kernel
theorem dX12_isAhead_51 : decode cX12_isAhead 51 = .ok (.invokevirtual 80, 3) := by decide +kernel
theorem dX12_isAhead_54 : decode cX12_isAhead 54 = .ok (.if_icmp .eq 26, 3) := by decide +kernel
theorem dX12_isAhead_57 : decode cX12_isAhead 57 = .ok (.aload_n 0, 1) := by decide +kernel
theorem dX12_isAhead_58 : decode cX12_isAhead 58 = .ok (.iload_n 1, 1) := by decide +kernel
theorem dX12_isAhead_59 : decode cX12_isAhead 59 = .ok (.bipush 10, 2) := by decide +kernel
theorem dX12_isAhead_61 : decode cX12_isAhead 61 = .ok (.invokevirtual 80, 3) := by decide +kernel
theorem dX12_isAhead_64 : decode cX12_isAhead 64 = .ok (.aload_n 0, 1) := by decide +kernel
theorem dX12_isAhead_65 : decode cX12_isAhead 65 = .ok (.iload_n 2, 1) := by decide +kernel
theorem dX12_isAhead_66 : decode cX12_isAhead 66 = .ok (.bipush 10, 2) := by decide +kernel
theorem dX12_isAhead_68 : decode cX12_isAhead 68 = .ok (.invokevirtual 80, 3) := by decide +kernel
theorem dX12_isAhead_71 : decode cX12_isAhead 71 = .ok (.if_icmp .le 7, 3) := by decide +kernel
theorem dX12_isAhead_74 : decode cX12_isAhead 74 = .ok (.iconst 1, 1) := by decide +kernel
theorem dX12_isAhead_75 : decode cX12_isAhead 75 = .ok (.goto 4, 3) := by decide +kernel
theorem dX12_isAhead_78 : decode cX12_isAhead 78 = .ok (.iconst 0, 1) := by decide +kernel
theorem dX12_isAhead_79 : decode cX12_isAhead 79 = .ok (.ireturn, 1) := by decide +kernel
theorem dX12_isAhead_80 : decode cX12_isAhead 80 = .ok (.bipush 10, 2) := by decide +kernel
theorem dX12_isAhead_82 : decode cX12_isAhead 82 = .ok (.aload_n 0, 1) := by decide +kernel
theorem dX12_isAhead_83 : decode cX12_isAhead 83 = .ok (.iload_n 1, 1) := by decide +kernel
theorem dX12_isAhead_84 : decode cX12_isAhead 84 = .ok (.iconst 0, 1) := by decide +kernel
theorem dX12_isAhead_85 : decode cX12_isAhead 85 = .ok (.invokevirtual 80, 3) := by decide +kernel
theorem dX12_isAhead_88 : decode cX12_isAhead 88 = .ok (.imul, 1) := by decide +kernel
theorem dX12_isAhead_89 : decode cX12_isAhead 89 = .ok (.aload_n 0, 1) := by decide +kernel
theorem dX12_isAhead_90 : decode cX12_isAhead 90 = .ok (.iload_n 1, 1) := by decide +kernel
theorem dX12_isAhead_91 : decode cX12_isAhead 91 = .ok (.iconst 1, 1) := by decide +kernel
theorem dX12_isAhead_92 : decode cX12_isAhead 92 = .ok (.invokevirtual 80, 3) := by decide +kernel
theorem dX12_isAhead_95 : decode cX12_isAhead 95 = .ok (.iadd, 1) := by decide +kernel
theorem dX12_isAhead_96 : decode cX12_isAhead 96 = .ok (.bipush 10, 2) := by decide +kernel
theorem dX12_isAhead_98 : decode cX12_isAhead 98 = .ok (.aload_n 0, 1) := by decide +kernel
theorem dX12_isAhead_99 : decode cX12_isAhead 99 = .ok (.iload_n 2, 1) := by decide +kernel
theorem dX12_isAhead_100 : decode cX12_isAhead 100 = .ok (.iconst 0, 1) := by decide +kernel
theorem dX12_isAhead_101 : decode cX12_isAhead 101 = .ok (.invokevirtual 80, 3) := by decide +kernel
theorem dX12_isAhead_104 : decode cX12_isAhead 104 = .ok (.imul, 1) := by decide +kernel
theorem dX12_isAhead_105 : decode cX12_isAhead 105 = .ok (.aload_n 0, 1) := by decide +kernel
theorem dX12_isAhead_106 : decode cX12_isAhead 106 = .ok (.iload_n 2, 1) := by decide +kernel
theorem dX12_isAhead_107 : decode cX12_isAhead 107 = .ok (.iconst 1, 1) := by decide +kernel
theorem dX12_isAhead_108 : decode cX12_isAhead 108 = .ok (.invokevirtual 80, 3) := by decide +kernel
theorem dX12_isAhead_111 : decode cX12_isAhead 111 = .ok (.iadd, 1) := by decide +kernel
theorem dX12_isAhead_112 : decode cX12_isAhead 112 = .ok (.if_icmp .ge 7, 3) := by decide +kernel
theorem dX12_isAhead_115 : decode cX12_isAhead 115 = .ok (.iconst 1, 1) := by decide +kernel
theorem dX12_isAhead_116 : decode cX12_isAhead 116 = .ok (.goto 4, 3) := by decide +kernel
theorem dX12_isAhead_119 : decode cX12_isAhead 119 = .ok (.iconst 0, 1) := by decide +kernel
theorem dX12_isAhead_120 : decode cX12_isAhead 120 = .ok (.ireturn, 1) := by decide +kernel
theorem dX12_stationByMinutes_0 : decode cX12_stationByMinutes 0 = .ok (.aload_n 0, 1) := by decide +kernel
theorem dX12_stationByMinutes_1 : decode cX12_stationByMinutes 1 = .ok (.iconst 0, 1) := by decide +kernel
theorem dX12_stationByMinutes_2 : decode cX12_stationByMinutes 2 = .ok (.putfield 22, 3) := by decide +kernel
theorem dX12_stationByMinutes_5 : decode cX12_stationByMinutes 5 = .ok (.iconst 0, 1) := by decide +kernel
theorem dX12_stationByMinutes_6 : decode cX12_stationByMinutes 6 = .ok (.istore_n 2, 1) := by decide +kernel
theorem dX12_stationByMinutes_7 : decode cX12_stationByMinutes 7 = .ok (.iload_n 2, 1) := by decide +kernel
theorem dX12_stationByMinutes_8 : decode cX12_stationByMinutes 8 = .ok (.aload_n 0, 1) := by decide +kernel
theorem dX12_stationByMinutes_9 : decode cX12_stationByMinutes 9 = .ok (.getfield 7, 3) := by decide +kernel
theorem dX12_stationByMinutes_12 : decode cX12_stationByMinutes 12 = .ok (.iconst 0, 1) := by decide +kernel
theorem dX12_stationByMinutes_13 : decode cX12_stationByMinutes 13 = .ok (.iaload, 1) := by decide +kernel
theorem dX12_stationByMinutes_14 : decode cX12_stationByMinutes 14 = .ok (.if_icmp .ge 56, 3) := by decide +kernel
theorem dX12_stationByMinutes_17 : decode cX12_stationByMinutes 17 = .ok (.iconst 0, 1) := by decide +kernel
theorem dX12_stationByMinutes_18 : decode cX12_stationByMinutes 18 = .ok (.istore_n 3, 1) := by decide +kernel
theorem dX12_stationByMinutes_19 : decode cX12_stationByMinutes 19 = .ok (.iconst 0, 1) := by decide +kernel
theorem dX12_stationByMinutes_20 : decode cX12_stationByMinutes 20 = .ok (.istore 4, 2) := by decide +kernel
theorem dX12_stationByMinutes_22 : decode cX12_stationByMinutes 22 = .ok (.iload 4, 2) := by decide +kernel
theorem dX12_stationByMinutes_24 : decode cX12_stationByMinutes 24 = .ok (.aload_n 0, 1) := by decide +kernel
theorem dX12_stationByMinutes_25 : decode cX12_stationByMinutes 25 = .ok (.getfield 7, 3) := by decide +kernel
theorem dX12_stationByMinutes_28 : decode cX12_stationByMinutes 28 = .ok (.iconst 0, 1) := by decide +kernel
theorem dX12_stationByMinutes_29 : decode cX12_stationByMinutes 29 = .ok (.iaload, 1) := by decide +kernel
theorem dX12_stationByMinutes_30 : decode cX12_stationByMinutes 30 = .ok (.if_icmp .ge 27, 3) := by decide +kernel
theorem dX12_stationByMinutes_33 : decode cX12_stationByMinutes 33 = .ok (.iload_n 3, 1) := by decide +kernel
theorem dX12_stationByMinutes_34 : decode cX12_stationByMinutes 34 = .ok (.aload_n 0, 1) := by decide +kernel
theorem dX12_stationByMinutes_35 : decode cX12_stationByMinutes 35 = .ok (.iload 4, 2) := by decide +kernel
theorem dX12_stationByMinutes_37 : decode cX12_stationByMinutes 37 = .ok (.iload_n 2, 1) := by decide +kernel
theorem dX12_stationByMinutes_38 : decode cX12_stationByMinutes 38 = .ok (.invokevirtual 200, 3) := by decide +kernel
theorem dX12_stationByMinutes_41 : decode cX12_stationByMinutes 41 = .ok (.ifCond .eq 7, 3) := by decide +kernel
theorem dX12_stationByMinutes_44 : decode cX12_stationByMinutes 44 = .ok (.iconst 1, 1) := by decide +kernel
theorem dX12_stationByMinutes_45 : decode cX12_stationByMinutes 45 = .ok (.goto 4, 3) := by decide +kernel
theorem dX12_stationByMinutes_48 : decode cX12_stationByMinutes 48 = .ok (.iconst 0, 1) := by decide +kernel
theorem dX12_stationByMinutes_49 : decode cX12_stationByMinutes 49 = .ok (.iadd, 1) := by decide +kernel
theorem dX12_stationByMinutes_50 : decode cX12_stationByMinutes 50 = .ok (.istore_n 3, 1) := by decide +kernel
theorem dX12_stationByMinutes_51 : decode cX12_stationByMinutes 51 = .ok (.iinc 4 1, 3) := by decide +kernel
theorem dX12_stationByMinutes_54 : decode cX12_stationByMinutes 54 = .ok (.goto (-32), 3) := by decide +kernel
theorem dX12_stationByMinutes_57 : decode cX12_stationByMinutes 57 = .ok (.iload_n 3, 1) := by decide +kernel
theorem dX12_stationByMinutes_58 : decode cX12_stationByMinutes 58 = .ok (.iload_n 1, 1) := by decide +kernel
theorem dX12_stationByMinutes_59 : decode cX12_stationByMinutes 59 = .ok (.if_icmp .ne 5, 3) := by decide +kernel
theorem dX12_stationByMinutes_62 : decode cX12_stationByMinutes 62 = .ok (.iload_n 2, 1) := by decide +kernel
theorem dX12_stationByMinutes_63 : decode cX12_stationByMinutes 63 = .ok (.ireturn, 1) := by decide +kernel
theorem dX12_stationByMinutes_64 : decode cX12_stationByMinutes 64 = .ok (.iinc 2 1, 3) := by decide +kernel
theorem dX12_stationByMinutes_67 : decode cX12_stationByMinutes 67 = .ok (.goto (-60), 3) := by decide +kernel
theorem dX12_stationByMinutes_70 : decode cX12_stationByMinutes 70 = .ok (.aload_n 0, 1) := by decide +kernel
theorem dX12_stationByMinutes_71 : decode cX12_stationByMinutes 71 = .ok (.iconst 1, 1) := by decide +kernel
theorem dX12_stationByMinutes_72 : decode cX12_stationByMinutes 72 = .ok (.invokevirtual 119, 3) := by decide +kernel
theorem dX12_stationByMinutes_75 : decode cX12_stationByMinutes 75 = .ok (.ireturn, 1) := by decide +kernel
theorem dX12_speaker_0 : decode cX12_speaker 0 = .ok (.aload_n 0, 1) := by decide +kernel
theorem dX12_speaker_1 : decode cX12_speaker 1 = .ok (.iload_n 1, 1) := by decide +kernel
theorem dX12_speaker_2 : decode cX12_speaker 2 = .ok (.invokestatic 101, 3) := by decide +kernel
theorem dX12_speaker_5 : decode cX12_speaker 5 = .ok (.ifCond .ne 7, 3) := by decide +kernel
theorem dX12_speaker_8 : decode cX12_speaker 8 = .ok (.iconst 1, 1) := by decide +kernel
theorem dX12_speaker_9 : decode cX12_speaker 9 = .ok (.goto 16, 3) := by decide +kernel
theorem dX12_speaker_12 : decode cX12_speaker 12 = .ok (.aload_n 0, 1) := by decide +kernel
theorem dX12_speaker_13 : decode cX12_speaker 13 = .ok (.iload_n 1, 1) := by decide +kernel
theorem dX12_speaker_14 : decode cX12_speaker 14 = .ok (.invokevirtual 150, 3) := by decide +kernel
theorem dX12_speaker_17 : decode cX12_speaker 17 = .ok (.ifCond .ge 7, 3) := by decide +kernel
theorem dX12_speaker_20 : decode cX12_speaker 20 = .ok (.iconst 2, 1) := by decide +kernel
theorem dX12_speaker_21 : decode cX12_speaker 21 = .ok (.goto 4, 3) := by decide +kernel
theorem dX12_speaker_24 : decode cX12_speaker 24 = .ok (.iconst 0, 1) := by decide +kernel
theorem dX12_speaker_25 : decode cX12_speaker 25 = .ok (.putfield 22, 3) := by decide +kernel
theorem dX12_speaker_28 : decode cX12_speaker 28 = .ok (.aload_n 0, 1) := by decide +kernel
theorem dX12_speaker_29 : decode cX12_speaker 29 = .ok (.getfield 22, 3) := by decide +kernel
theorem dX12_speaker_32 : decode cX12_speaker 32 = .ok (.ifCond .le 7, 3) := by decide +kernel
theorem dX12_speaker_35 : decode cX12_speaker 35 = .ok (.iconst 0, 1) := by decide +kernel
theorem dX12_speaker_36 : decode cX12_speaker 36 = .ok (.goto 8, 3) := by decide +kernel
theorem dX12_speaker_39 : decode cX12_speaker 39 = .ok (.aload_n 0, 1) := by decide +kernel
theorem dX12_speaker_40 : decode cX12_speaker 40 = .ok (.iload_n 1, 1) := by decide +kernel
theorem dX12_speaker_41 : decode cX12_speaker 41 = .ok (.invokevirtual 150, 3) := by decide +kernel
theorem dX12_speaker_44 : decode cX12_speaker 44 = .ok (.ireturn, 1) := by decide +kernel
theorem dX12_lineLength_0 : decode cX12_lineLength 0 = .ok (.aload_n 0, 1) := by decide +kernel
theorem dX12_lineLength_1 : decode cX12_lineLength 1 = .ok (.iload_n 1, 1) := by decide +kernel
theorem dX12_lineLength_2 : decode cX12_lineLength 2 = .ok (.invokestatic 101, 3) := by decide +kernel
theorem dX12_lineLength_5 : decode cX12_lineLength 5 = .ok (.ifCond .eq 7, 3) := by decide +kernel
theorem dX12_lineLength_8 : decode cX12_lineLength 8 = .ok (.iconst 0, 1) := by decide +kernel
theorem dX12_lineLength_9 : decode cX12_lineLength 9 = .ok (.goto 4, 3) := by decide +kernel
theorem dX12_lineLength_12 : decode cX12_lineLength 12 = .ok (.iconst 1, 1) := by decide +kernel
theorem dX12_lineLength_13 : decode cX12_lineLength 13 = .ok (.putfield 22, 3) := by decide +kernel
theorem dX12_lineLength_16 : decode cX12_lineLength 16 = .ok (.aload_n 0, 1) := by decide +kernel
theorem dX12_lineLength_17 : decode cX12_lineLength 17 = .ok (.getfield 22, 3) := by decide +kernel
theorem dX12_lineLength_20 : decode cX12_lineLength 20 = .ok (.ifCond .le 7, 3) := by decide +kernel
theorem dX12_lineLength_23 : decode cX12_lineLength 23 = .ok (.iconst 0, 1) := by decide +kernel
theorem dX12_lineLength_24 : decode cX12_lineLength 24 = .ok (.goto 8, 3) := by decide +kernel
theorem dX12_lineLength_27 : decode cX12_lineLength 27 = .ok (.aload_n 0, 1) := by decide +kernel
theorem dX12_lineLength_28 : decode cX12_lineLength 28 = .ok (.iload_n 1, 1) := by decide +kernel
theorem dX12_lineLength_29 : decode cX12_lineLength 29 = .ok (.invokevirtual 172, 3) := by decide +kernel
theorem dX12_lineLength_32 : decode cX12_lineLength 32 = .ok (.ireturn, 1) := by decide +kernel
theorem dX12_waiting_0 : decode cX12_waiting 0 = .ok (.aload_n 0, 1) := by decide +kernel
theorem dX12_waiting_1 : decode cX12_waiting 1 = .ok (.iload_n 1, 1) := by decide +kernel
theorem dX12_waiting_2 : decode cX12_waiting 2 = .ok (.invokestatic 101, 3) := by decide +kernel
theorem dX12_waiting_5 : decode cX12_waiting 5 = .ok (.ifCond .ne 7, 3) := by decide +kernel
theorem dX12_waiting_8 : decode cX12_waiting 8 = .ok (.iconst 1, 1) := by decide +kernel
theorem dX12_waiting_9 : decode cX12_waiting 9 = .ok (.goto 17, 3) := by decide +kernel
theorem dX12_waiting_12 : decode cX12_waiting 12 = .ok (.aload_n 0, 1) := by decide +kernel
theorem dX12_waiting_13 : decode cX12_waiting 13 = .ok (.iload_n 1, 1) := by decide +kernel
theorem dX12_waiting_14 : decode cX12_waiting 14 = .ok (.iload_n 2, 1) := by decide +kernel
theorem dX12_waiting_15 : decode cX12_waiting 15 = .ok (.invokevirtual 166, 3) := by decide +kernel
theorem dX12_waiting_18 : decode cX12_waiting 18 = .ok (.ifCond .ge 7, 3) := by decide +kernel
theorem dX12_waiting_21 : decode cX12_waiting 21 = .ok (.iconst 2, 1) := by decide +kernel
theorem dX12_waiting_22 : decode cX12_waiting 22 = .ok (.goto 4, 3) := by decide +kernel
theorem dX12_waiting_25 : decode cX12_waiting 25 = .ok (.iconst 0, 1) := by decide +kernel
theorem dX12_waiting_26 : decode cX12_waiting 26 = .ok (.putfield 22, 3) := by decide +kernel
theorem dX12_waiting_29 : decode cX12_waiting 29 = .ok (.aload_n 0, 1) := by decide +kernel
theorem dX12_waiting_30 : decode cX12_waiting 30 = .ok (.getfield 22, 3) := by decide +kernel
theorem dX12_waiting_33 : decode cX12_waiting 33 = .ok (.ifCond .le 7, 3) := by decide +kernel
theorem dX12_waiting_36 : decode cX12_waiting 36 = .ok (.iconst 0, 1) := by decide +kernel
theorem dX12_waiting_37 : decode cX12_waiting 37 = .ok (.goto 9, 3) := by decide +kernel
theorem dX12_waiting_40 : decode cX12_waiting 40 = .ok (.aload_n 0, 1) := by decide +kernel
theorem dX12_waiting_41 : decode cX12_waiting 41 = .ok (.iload_n 1, 1) := by decide +kernel
theorem dX12_waiting_42 : decode cX12_waiting 42 = .ok (.iload_n 2, 1) := by decide +kernel
theorem dX12_waiting_43 : decode cX12_waiting 43 = .ok (.invokevirtual 166, 3) := by decide +kernel
theorem dX12_waiting_46 : decode cX12_waiting 46 = .ok (.ireturn, 1) := by decide +kernel
theorem dX12_untilTurn_0 : decode cX12_untilTurn 0 = .ok (.aload_n 0, 1) := by decide +kernel
theorem dX12_untilTurn_1 : decode cX12_untilTurn 1 = .ok (.aload_n 0, 1) := by decide +kernel
theorem dX12_untilTurn_2 : decode cX12_untilTurn 2 = .ok (.iload_n 1, 1) := by decide +kernel
theorem dX12_untilTurn_3 : decode cX12_untilTurn 3 = .ok (.iconst 2, 1) := by decide +kernel
theorem dX12_untilTurn_4 : decode cX12_untilTurn 4 = .ok (.invokevirtual 157, 3) := by decide +kernel
theorem dX12_untilTurn_7 : decode cX12_untilTurn 7 = .ok (.putfield 22, 3) := by decide +kernel
theorem dX12_untilTurn_10 : decode cX12_untilTurn 10 = .ok (.aload_n 0, 1) := by decide +kernel
theorem dX12_untilTurn_11 : decode cX12_untilTurn 11 = .ok (.getfield 22, 3) := by decide +kernel
theorem dX12_untilTurn_14 : decode cX12_untilTurn 14 = .ok (.ifCond .le 5, 3) := by decide +kernel
theorem dX12_untilTurn_17 : decode cX12_untilTurn 17 = .ok (.iconst 0, 1) := by decide +kernel
theorem dX12_untilTurn_18 : decode cX12_untilTurn 18 = .ok (.ireturn, 1) := by decide +kernel
theorem dX12_untilTurn_19 : decode cX12_untilTurn 19 = .ok (.aload_n 0, 1) := by decide +kernel
theorem dX12_untilTurn_20 : decode cX12_untilTurn 20 = .ok (.getfield 7, 3) := by decide +kernel
theorem dX12_untilTurn_23 : decode cX12_untilTurn 23 = .ok (.iconst 2, 1) := by decide +kernel
theorem dX12_untilTurn_24 : decode cX12_untilTurn 24 = .ok (.iaload, 1) := by decide +kernel
theorem dX12_untilTurn_25 : decode cX12_untilTurn 25 = .ok (.aload_n 0, 1) := by decide +kernel
theorem dX12_untilTurn_26 : decode cX12_untilTurn 26 = .ok (.aload_n 0, 1) := by decide +kernel
theorem dX12_untilTurn_27 : decode cX12_untilTurn 27 = .ok (.aload_n 0, 1) := by decide +kernel
theorem dX12_untilTurn_28 : decode cX12_untilTurn 28 = .ok (.iload_n 1, 1) := by decide +kernel
theorem dX12_untilTurn_29 : decode cX12_untilTurn 29 = .ok (.iconst 5, 1) := by decide +kernel
theorem dX12_untilTurn_30 : decode cX12_untilTurn 30 = .ok (.invokevirtual 80, 3) := by decide +kernel
theorem dX12_untilTurn_33 : decode cX12_untilTurn 33 = .ok (.invokevirtual 150, 3) := by decide +kernel
theorem dX12_untilTurn_36 : decode cX12_untilTurn 36 = .ok (.bipush 8, 2) := by decide +kernel
theorem dX12_untilTurn_38 : decode cX12_untilTurn 38 = .ok (.invokevirtual 80, 3) := by decide +kernel
theorem dX12_untilTurn_41 : decode cX12_untilTurn 41 = .ok (.isub, 1) := by decide +kernel
theorem dX12_untilTurn_42 : decode cX12_untilTurn 42 = .ok (.istore_n 2, 1) := by decide +kernel
theorem dX12_untilTurn_43 : decode cX12_untilTurn 43 = .ok (.iload_n 2, 1) := by decide +kernel
theorem dX12_untilTurn_44 : decode cX12_untilTurn 44 = .ok (.iconst 1, 1) := by decide +kernel
theorem dX12_untilTurn_45 : decode cX12_untilTurn 45 = .ok (.if_icmp .ge 7, 3) := by decide +kernel
theorem dX12_untilTurn_48 : decode cX12_untilTurn 48 = .ok (.iconst 1, 1) := by decide +kernel
theorem dX12_untilTurn_49 : decode cX12_untilTurn 49 = .ok (.goto 4, 3) := by decide +kernel
theorem dX12_untilTurn_52 : decode cX12_untilTurn 52 = .ok (.iload_n 2, 1) := by decide +kernel
theorem dX12_untilTurn_53 : decode cX12_untilTurn 53 = .ok (.aload_n 0, 1) := by decide +kernel
theorem dX12_untilTurn_54 : decode cX12_untilTurn 54 = .ok (.iload_n 1, 1) := by decide +kernel
theorem dX12_untilTurn_55 : decode cX12_untilTurn 55 = .ok (.invokevirtual 94, 3) := by decide +kernel
theorem dX12_untilTurn_58 : decode cX12_untilTurn 58 = .ok (.iconst 1, 1) := by decide +kernel
theorem dX12_untilTurn_59 : decode cX12_untilTurn 59 = .ok (.isub, 1) := by decide +kernel
theorem dX12_untilTurn_60 : decode cX12_untilTurn 60 = .ok (.aload_n 0, 1) := by decide +kernel
theorem dX12_untilTurn_61 : decode cX12_untilTurn 61 = .ok (.getfield 7, 3) := by decide +kernel
theorem dX12_untilTurn_64 : decode cX12_untilTurn 64 = .ok (.iconst 2, 1) := by decide +kernel
theorem dX12_untilTurn_65 : decode cX12_untilTurn 65 = .ok (.iaload, 1) := by decide +kernel
theorem dX12_untilTurn_66 : decode cX12_untilTurn 66 = .ok (.imul, 1) := by decide +kernel
theorem dX12_untilTurn_67 : decode cX12_untilTurn 67 = .ok (.iadd, 1) := by decide +kernel
theorem dX12_untilTurn_68 : decode cX12_untilTurn 68 = .ok (.ireturn, 1) := by decide +kernel
theorem dX12_minutesUntilTurn_0 : decode cX12_minutesUntilTurn 0 = .ok (.aload_n 0, 1) := by decide +kernel
theorem dX12_minutesUntilTurn_1 : decode cX12_minutesUntilTurn 1 = .ok (.iload_n 1, 1) := by decide +kernel
theorem dX12_minutesUntilTurn_2 : decode cX12_minutesUntilTurn 2 = .ok (.invokevirtual 203, 3) := by decide +kernel
theorem dX12_minutesUntilTurn_5 : decode cX12_minutesUntilTurn 5 = .ok (.ireturn, 1) := by decide +kernel
theorem dX12_minutesUntilTurnBySimulation_0 : decode cX12_minutesUntilTurnBySimulation 0 = .ok (.aload_n 0, 1) := by decide +kernel
theorem dX12_minutesUntilTurnBySimulation_1 : decode cX12_minutesUntilTurnBySimulation 1 = .ok (.iload_n 1, 1) := by decide +kernel
theorem dX12_minutesUntilTurnBySimulation_2 : decode cX12_minutesUntilTurnBySimulation 2 = .ok (.invokevirtual 203, 3) := by decide +kernel
theorem dX12_minutesUntilTurnBySimulation_5 : decode cX12_minutesUntilTurnBySimulation 5 = .ok (.ireturn, 1) := by decide +kernel
theorem dX12_areStations_0 : decode cX12_areStations 0 = .ok (.aload_n 0, 1) := by decide +kernel
theorem dX12_areStations_1 : decode cX12_areStations 1 = .ok (.aload_n 0, 1) := by decide +kernel
theorem dX12_areStations_2 : decode cX12_areStations 2 = .ok (.iload_n 1, 1) := by decide +kernel
theorem dX12_areStations_3 : decode cX12_areStations 3 = .ok (.invokevirtual 131, 3) := by decide +kernel
theorem dX12_areStations_6 : decode cX12_areStations 6 = .ok (.ifCond .eq 15, 3) := by decide +kernel
theorem dX12_areStations_9 : decode cX12_areStations 9 = .ok (.aload_n 0, 1) := by decide +kernel
theorem dX12_areStations_10 : decode cX12_areStations 10 = .ok (.iload_n 2, 1) := by decide +kernel
theorem dX12_areStations_11 : decode cX12_areStations 11 = .ok (.invokevirtual 131, 3) := by decide +kernel
theorem dX12_areStations_14 : decode cX12_areStations 14 = .ok (.ifCond .eq 7, 3) := by decide +kernel
theorem dX12_areStations_17 : decode cX12_areStations 17 = .ok (.iconst 0, 1) := by decide +kernel
theorem dX12_areStations_18 : decode cX12_areStations 18 = .ok (.goto 4, 3) := by decide +kernel
theorem dX12_areStations_21 : decode cX12_areStations 21 = .ok (.iconst 1, 1) := by decide +kernel
theorem dX12_areStations_22 : decode cX12_areStations 22 = .ok (.putfield 22, 3) := by decide +kernel
theorem dX12_areStations_25 : decode cX12_areStations 25 = .ok (.aload_n 0, 1) := by decide +kernel
theorem dX12_areStations_26 : decode cX12_areStations 26 = .ok (.getfield 22, 3) := by decide +kernel
theorem dX12_areStations_29 : decode cX12_areStations 29 = .ok (.ifCond .ne 7, 3) := by decide +kernel
theorem dX12_areStations_32 : decode cX12_areStations 32 = .ok (.iconst 1, 1) := by decide +kernel
theorem dX12_areStations_33 : decode cX12_areStations 33 = .ok (.goto 4, 3) := by decide +kernel
theorem dX12_areStations_36 : decode cX12_areStations 36 = .ok (.iconst 0, 1) := by decide +kernel
theorem dX12_areStations_37 : decode cX12_areStations 37 = .ok (.ireturn, 1) := by decide +kernel
theorem dX12_canHear_0 : decode cX12_canHear 0 = .ok (.aload_n 0, 1) := by decide +kernel
theorem dX12_canHear_1 : decode cX12_canHear 1 = .ok (.iload_n 1, 1) := by decide +kernel
theorem dX12_canHear_2 : decode cX12_canHear 2 = .ok (.iload_n 2, 1) := by decide +kernel
theorem dX12_canHear_3 : decode cX12_canHear 3 = .ok (.invokevirtual 206, 3) := by decide +kernel
theorem dX12_canHear_6 : decode cX12_canHear 6 = .ok (.ifCond .eq 16, 3) := by decide +kernel
theorem dX12_canHear_9 : decode cX12_canHear 9 = .ok (.aload_n 0, 1) := by decide +kernel
theorem dX12_canHear_10 : decode cX12_canHear 10 = .ok (.iload_n 1, 1) := by decide +kernel
theorem dX12_canHear_11 : decode cX12_canHear 11 = .ok (.iload_n 2, 1) := by decide +kernel
theorem dX12_canHear_12 : decode cX12_canHear 12 = .ok (.invokevirtual 128, 3) := by decide +kernel
theorem dX12_canHear_15 : decode cX12_canHear 15 = .ok (.ifCond .eq 7, 3) := by decide +kernel
theorem dX12_canHear_18 : decode cX12_canHear 18 = .ok (.iconst 1, 1) := by decide +kernel
theorem dX12_canHear_19 : decode cX12_canHear 19 = .ok (.goto 4, 3) := by decide +kernel
theorem dX12_canHear_22 : decode cX12_canHear 22 = .ok (.iconst 0, 1) := by decide +kernel
theorem dX12_canHear_23 : decode cX12_canHear 23 = .ok (.ireturn, 1) := by decide +kernel
theorem dX12_isJammed_0 : decode cX12_isJammed 0 = .ok (.aload_n 0, 1) := by decide +kernel
theorem dX12_isJammed_1 : decode cX12_isJammed 1 = .ok (.iload_n 1, 1) := by decide +kernel
theorem dX12_isJammed_2 : decode cX12_isJammed 2 = .ok (.iload_n 1, 1) := by decide +kernel
theorem dX12_isJammed_3 : decode cX12_isJammed 3 = .ok (.invokevirtual 206, 3) := by decide +kernel
theorem dX12_isJammed_6 : decode cX12_isJammed 6 = .ok (.ifCond .eq 15, 3) := by decide +kernel
theorem dX12_isJammed_9 : decode cX12_isJammed 9 = .ok (.aload_n 0, 1) := by decide +kernel
theorem dX12_isJammed_10 : decode cX12_isJammed 10 = .ok (.iload_n 1, 1) := by decide +kernel
theorem dX12_isJammed_11 : decode cX12_isJammed 11 = .ok (.invokevirtual 181, 3) := by decide +kernel
theorem dX12_isJammed_14 : decode cX12_isJammed 14 = .ok (.ifCond .eq 7, 3) := by decide +kernel
theorem dX12_isJammed_17 : decode cX12_isJammed 17 = .ok (.iconst 1, 1) := by decide +kernel
theorem dX12_isJammed_18 : decode cX12_isJammed 18 = .ok (.goto 4, 3) := by decide +kernel
theorem dX12_isJammed_21 : decode cX12_isJammed 21 = .ok (.iconst 0, 1) := by decide +kernel
theorem dX12_isJammed_22 : decode cX12_isJammed 22 = .ok (.ireturn, 1) := by decide +kernel
theorem dX12_pairs_0 : decode cX12_pairs 0 = .ok (.iconst 0, 1) := by decide +kernel
theorem dX12_pairs_1 : decode cX12_pairs 1 = .ok (.istore_n 1, 1) := by decide +kernel
theorem dX12_pairs_2 : decode cX12_pairs 2 = .ok (.iconst 0, 1) := by decide +kernel
theorem dX12_pairs_3 : decode cX12_pairs 3 = .ok (.istore_n 2, 1) := by decide +kernel
theorem dX12_pairs_4 : decode cX12_pairs 4 = .ok (.iload_n 2, 1) := by decide +kernel
theorem dX12_pairs_5 : decode cX12_pairs 5 = .ok (.aload_n 0, 1) := by decide +kernel
theorem dX12_pairs_6 : decode cX12_pairs 6 = .ok (.getfield 7, 3) := by decide +kernel
theorem dX12_pairs_9 : decode cX12_pairs 9 = .ok (.iconst 0, 1) := by decide +kernel
theorem dX12_pairs_10 : decode cX12_pairs 10 = .ok (.iaload, 1) := by decide +kernel
theorem dX12_pairs_11 : decode cX12_pairs 11 = .ok (.if_icmp .ge 44, 3) := by decide +kernel
theorem dX12_pairs_14 : decode cX12_pairs 14 = .ok (.iconst 0, 1) := by decide +kernel
theorem dX12_pairs_15 : decode cX12_pairs 15 = .ok (.istore_n 3, 1) := by decide +kernel
theorem dX12_pairs_16 : decode cX12_pairs 16 = .ok (.iload_n 3, 1) := by decide +kernel
theorem dX12_pairs_17 : decode cX12_pairs 17 = .ok (.aload_n 0, 1) := by decide +kernel
theorem dX12_pairs_18 : decode cX12_pairs 18 = .ok (.getfield 7, 3) := by decide +kernel
theorem dX12_pairs_21 : decode cX12_pairs 21 = .ok (.iconst 0, 1) := by decide +kernel
theorem dX12_pairs_22 : decode cX12_pairs 22 = .ok (.iaload, 1) := by decide +kernel
theorem dX12_pairs_23 : decode cX12_pairs 23 = .ok (.if_icmp .ge 26, 3) := by decide +kernel
theorem dX12_pairs_26 : decode cX12_pairs 26 = .ok (.iload_n 1, 1) := by decide +kernel
theorem dX12_pairs_27 : decode cX12_pairs 27 = .ok (.aload_n 0, 1) := by decide +kernel
theorem dX12_pairs_28 : decode cX12_pairs 28 = .ok (.iload_n 2, 1) := by decide +kernel
theorem dX12_pairs_29 : decode cX12_pairs 29 = .ok (.iload_n 3, 1) := by decide +kernel
theorem dX12_pairs_30 : decode cX12_pairs 30 = .ok (.invokevirtual 87, 3) := by decide +kernel
theorem dX12_pairs_33 : decode cX12_pairs 33 = .ok (.ifCond .eq 7, 3) := by decide +kernel
theorem dX12_pairs_36 : decode cX12_pairs 36 = .ok (.iconst 1, 1) := by decide +kernel
theorem dX12_pairs_37 : decode cX12_pairs 37 = .ok (.goto 4, 3) := by decide +kernel
theorem dX12_pairs_40 : decode cX12_pairs 40 = .ok (.iconst 0, 1) := by decide +kernel
theorem dX12_pairs_41 : decode cX12_pairs 41 = .ok (.iadd, 1) := by decide +kernel
theorem dX12_pairs_42 : decode cX12_pairs 42 = .ok (.istore_n 1, 1) := by decide +kernel
theorem dX12_pairs_43 : decode cX12_pairs 43 = .ok (.iinc 3 1, 3) := by decide +kernel
theorem dX12_pairs_46 : decode cX12_pairs 46 = .ok (.goto (-30), 3) := by decide +kernel
theorem dX12_pairs_49 : decode cX12_pairs 49 = .ok (.iinc 2 1, 3) := by decide +kernel
theorem dX12_pairs_52 : decode cX12_pairs 52 = .ok (.goto (-48), 3) := by decide +kernel
theorem dX12_pairs_55 : decode cX12_pairs 55 = .ok (.iload_n 1, 1) := by decide +kernel
theorem dX12_pairs_56 : decode cX12_pairs 56 = .ok (.ireturn, 1) := by decide +kernel
theorem dX12_jams_0 : decode cX12_jams 0 = .ok (.aload_n 0, 1) := by decide +kernel
theorem dX12_jams_1 : decode cX12_jams 1 = .ok (.aload_n 0, 1) := by decide +kernel
theorem dX12_jams_2 : decode cX12_jams 2 = .ok (.invokevirtual 209, 3) := by decide +kernel
theorem dX12_jams_5 : decode cX12_jams 5 = .ok (.invokevirtual 194, 3) := by decide +kernel
theorem dX12_jams_8 : decode cX12_jams 8 = .ok (.ireturn, 1) := by decide +kernel
theorem dX12_jamsByChannels_0 : decode cX12_jamsByChannels 0 = .ok (.aload_n 0, 1) := by decide +kernel
theorem dX12_jamsByChannels_1 : decode cX12_jamsByChannels 1 = .ok (.aload_n 0, 1) := by decide +kernel
theorem dX12_jamsByChannels_2 : decode cX12_jamsByChannels 2 = .ok (.invokevirtual 209, 3) := by decide +kernel
theorem dX12_jamsByChannels_5 : decode cX12_jamsByChannels 5 = .ok (.invokevirtual 194, 3) := by decide +kernel
theorem dX12_jamsByChannels_8 : decode cX12_jamsByChannels 8 = .ok (.ireturn, 1) := by decide +kernel
theorem dX12_relayed_0 : decode cX12_relayed 0 = .ok (.iload_n 1, 1) := by decide +kernel
theorem dX12_relayed_1 : decode cX12_relayed 1 = .ok (.istore_n 2, 1) := by decide +kernel
theorem dX12_relayed_2 : decode cX12_relayed 2 = .ok (.iconst 0, 1) := by decide +kernel
theorem dX12_relayed_3 : decode cX12_relayed 3 = .ok (.istore_n 3, 1) := by decide +kernel
theorem dX12_relayed_4 : decode cX12_relayed 4 = .ok (.iload_n 3, 1) := by decide +kernel
theorem dX12_relayed_5 : decode cX12_relayed 5 = .ok (.aload_n 0, 1) := by decide +kernel
theorem dX12_relayed_6 : decode cX12_relayed 6 = .ok (.getfield 7, 3) := by decide +kernel
theorem dX12_relayed_9 : decode cX12_relayed 9 = .ok (.iconst 0, 1) := by decide +kernel
theorem dX12_relayed_10 : decode cX12_relayed 10 = .ok (.iaload, 1) := by decide +kernel
theorem dX12_relayed_11 : decode cX12_relayed 11 = .ok (.if_icmp .ge 59, 3) := by decide +kernel
theorem dX12_relayed_14 : decode cX12_relayed 14 = .ok (.iconst 0, 1) := by decide +kernel
theorem dX12_relayed_15 : decode cX12_relayed 15 = .ok (.istore 4, 2) := by decide +kernel
theorem dX12_relayed_17 : decode cX12_relayed 17 = .ok (.iload 4, 2) := by decide +kernel
theorem dX12_relayed_19 : decode cX12_relayed 19 = .ok (.aload_n 0, 1) := by decide +kernel
theorem dX12_relayed_20 : decode cX12_relayed 20 = .ok (.getfield 7, 3) := by decide +kernel
theorem dX12_relayed_23 : decode cX12_relayed 23 = .ok (.iconst 0, 1) := by decide +kernel
theorem dX12_relayed_24 : decode cX12_relayed 24 = .ok (.iaload, 1) := by decide +kernel
theorem dX12_relayed_25 : decode cX12_relayed 25 = .ok (.if_icmp .ge 39, 3) := by decide +kernel
theorem dX12_relayed_28 : decode cX12_relayed 28 = .ok (.iload_n 2, 1) := by decide +kernel
theorem dX12_relayed_29 : decode cX12_relayed 29 = .ok (.iload_n 1, 1) := by decide +kernel
theorem dX12_relayed_30 : decode cX12_relayed 30 = .ok (.iload_n 3, 1) := by decide +kernel
theorem dX12_relayed_31 : decode cX12_relayed 31 = .ok (.ishr, 1) := by decide +kernel
theorem dX12_relayed_32 : decode cX12_relayed 32 = .ok (.iconst 1, 1) := by decide +kernel
theorem dX12_relayed_33 : decode cX12_relayed 33 = .ok (.iand, 1) := by decide +kernel
theorem dX12_relayed_34 : decode cX12_relayed 34 = .ok (.iconst 1, 1) := by decide +kernel
theorem dX12_relayed_35 : decode cX12_relayed 35 = .ok (.if_icmp .ne 20, 3) := by decide +kernel
theorem dX12_relayed_38 : decode cX12_relayed 38 = .ok (.aload_n 0, 1) := by decide +kernel
theorem dX12_relayed_39 : decode cX12_relayed 39 = .ok (.iload 4, 2) := by decide +kernel
theorem dX12_relayed_41 : decode cX12_relayed 41 = .ok (.iload_n 3, 1) := by decide +kernel
theorem dX12_relayed_42 : decode cX12_relayed 42 = .ok (.invokevirtual 128, 3) := by decide +kernel
theorem dX12_relayed_45 : decode cX12_relayed 45 = .ok (.ifCond .eq 10, 3) := by decide +kernel
theorem dX12_relayed_48 : decode cX12_relayed 48 = .ok (.iconst 1, 1) := by decide +kernel
theorem dX12_relayed_49 : decode cX12_relayed 49 = .ok (.iload 4, 2) := by decide +kernel
theorem dX12_relayed_51 : decode cX12_relayed 51 = .ok (.ishl, 1) := by decide +kernel
theorem dX12_relayed_52 : decode cX12_relayed 52 = .ok (.goto 4, 3) := by decide +kernel
theorem dX12_relayed_55 : decode cX12_relayed 55 = .ok (.iconst 0, 1) := by decide +kernel
theorem dX12_relayed_56 : decode cX12_relayed 56 = .ok (.ior, 1) := by decide +kernel
theorem dX12_relayed_57 : decode cX12_relayed 57 = .ok (.istore_n 2, 1) := by decide +kernel
theorem dX12_relayed_58 : decode cX12_relayed 58 = .ok (.iinc 4 1, 3) := by decide +kernel
theorem dX12_relayed_61 : decode cX12_relayed 61 = .ok (.goto (-44), 3) := by decide +kernel
theorem dX12_relayed_64 : decode cX12_relayed 64 = .ok (.iinc 3 1, 3) := by decide +kernel
theorem dX12_relayed_67 : decode cX12_relayed 67 = .ok (.goto (-63), 3) := by decide +kernel
theorem dX12_relayed_70 : decode cX12_relayed 70 = .ok (.iload_n 2, 1) := by decide +kernel
theorem dX12_relayed_71 : decode cX12_relayed 71 = .ok (.ireturn, 1) := by decide +kernel
theorem dX12_hopsOf_0 : decode cX12_hopsOf 0 = .ok (.aload_n 0, 1) := by decide +kernel
theorem dX12_hopsOf_1 : decode cX12_hopsOf 1 = .ok (.iload_n 1, 1) := by decide +kernel
theorem dX12_hopsOf_2 : decode cX12_hopsOf 2 = .ok (.iload_n 2, 1) := by decide +kernel
theorem dX12_hopsOf_3 : decode cX12_hopsOf 3 = .ok (.invokevirtual 206, 3) := by decide +kernel
theorem dX12_hopsOf_6 : decode cX12_hopsOf 6 = .ok (.ifCond .ne 5, 3) := by decide +kernel
theorem dX12_hopsOf_9 : decode cX12_hopsOf 9 = .ok (.iconst 0, 1) := by decide +kernel
theorem dX12_hopsOf_10 : decode cX12_hopsOf 10 = .ok (.ireturn, 1) := by decide +kernel
theorem dX12_hopsOf_11 : decode cX12_hopsOf 11 = .ok (.iconst 1, 1) := by decide +kernel
theorem dX12_hopsOf_12 : decode cX12_hopsOf 12 = .ok (.iload_n 1, 1) := by decide +kernel
theorem dX12_hopsOf_13 : decode cX12_hopsOf 13 = .ok (.ishl, 1) := by decide +kernel
theorem dX12_hopsOf_14 : decode cX12_hopsOf 14 = .ok (.istore_n 3, 1) := by decide +kernel
theorem dX12_hopsOf_15 : decode cX12_hopsOf 15 = .ok (.iconst 0, 1) := by decide +kernel
theorem dX12_hopsOf_16 : decode cX12_hopsOf 16 = .ok (.istore 4, 2) := by decide +kernel
theorem dX12_hopsOf_18 : decode cX12_hopsOf 18 = .ok (.iload 4, 2) := by decide +kernel
theorem dX12_hopsOf_20 : decode cX12_hopsOf 20 = .ok (.bipush 8, 2) := by decide +kernel
theorem dX12_hopsOf_22 : decode cX12_hopsOf 22 = .ok (.if_icmp .gt 27, 3) := by decide +kernel
theorem dX12_hopsOf_25 : decode cX12_hopsOf 25 = .ok (.iload_n 3, 1) := by decide +kernel
theorem dX12_hopsOf_26 : decode cX12_hopsOf 26 = .ok (.iload_n 2, 1) := by decide +kernel
theorem dX12_hopsOf_27 : decode cX12_hopsOf 27 = .ok (.ishr, 1) := by decide +kernel
theorem dX12_hopsOf_28 : decode cX12_hopsOf 28 = .ok (.iconst 1, 1) := by decide +kernel
theorem dX12_hopsOf_29 : decode cX12_hopsOf 29 = .ok (.iand, 1) := by decide +kernel
theorem dX12_hopsOf_30 : decode cX12_hopsOf 30 = .ok (.iconst 1, 1) := by decide +kernel
theorem dX12_hopsOf_31 : decode cX12_hopsOf 31 = .ok (.if_icmp .ne 6, 3) := by decide +kernel
theorem dX12_hopsOf_34 : decode cX12_hopsOf 34 = .ok (.iload 4, 2) := by decide +kernel
theorem dX12_hopsOf_36 : decode cX12_hopsOf 36 = .ok (.ireturn, 1) := by decide +kernel
theorem dX12_hopsOf_37 : decode cX12_hopsOf 37 = .ok (.aload_n 0, 1) := by decide +kernel
theorem dX12_hopsOf_38 : decode cX12_hopsOf 38 = .ok (.iload_n 3, 1) := by decide +kernel
theorem dX12_hopsOf_39 : decode cX12_hopsOf 39 = .ok (.invokevirtual 212, 3) := by decide +kernel
theorem dX12_hopsOf_42 : decode cX12_hopsOf 42 = .ok (.istore_n 3, 1) := by decide +kernel
theorem dX12_hopsOf_43 : decode cX12_hopsOf 43 = .ok (.iinc 4 1, 3) := by decide +kernel
theorem dX12_hopsOf_46 : decode cX12_hopsOf 46 = .ok (.goto (-28), 3) := by decide +kernel
theorem dX12_hopsOf_49 : decode cX12_hopsOf 49 = .ok (.aload_n 0, 1) := by decide +kernel
theorem dX12_hopsOf_50 : decode cX12_hopsOf 50 = .ok (.iconst 2, 1) := by decide +kernel
theorem dX12_hopsOf_51 : decode cX12_hopsOf 51 = .ok (.invokevirtual 119, 3) := by decide +kernel
theorem dX12_hopsOf_54 : decode cX12_hopsOf 54 = .ok (.ireturn, 1) := by decide +kernel
theorem dX12_hops_0 : decode cX12_hops 0 = .ok (.aload_n 0, 1) := by decide +kernel
theorem dX12_hops_1 : decode cX12_hops 1 = .ok (.iload_n 1, 1) := by decide +kernel
theorem dX12_hops_2 : decode cX12_hops 2 = .ok (.iload_n 2, 1) := by decide +kernel
theorem dX12_hops_3 : decode cX12_hops 3 = .ok (.invokevirtual 215, 3) := by decide +kernel
theorem dX12_hops_6 : decode cX12_hops 6 = .ok (.ireturn, 1) := by decide +kernel
theorem dX12_hopsBySets_0 : decode cX12_hopsBySets 0 = .ok (.aload_n 0, 1) := by decide +kernel
theorem dX12_hopsBySets_1 : decode cX12_hopsBySets 1 = .ok (.iload_n 1, 1) := by decide +kernel
theorem dX12_hopsBySets_2 : decode cX12_hopsBySets 2 = .ok (.iload_n 2, 1) := by decide +kernel
theorem dX12_hopsBySets_3 : decode cX12_hopsBySets 3 = .ok (.invokevirtual 215, 3) := by decide +kernel
theorem dX12_hopsBySets_6 : decode cX12_hopsBySets 6 = .ok (.ireturn, 1) := by decide +kernel
theorem dX12_reachable_0 : decode cX12_reachable 0 = .ok (.aload_n 0, 1) := by decide +kernel
theorem dX12_reachable_1 : decode cX12_reachable 1 = .ok (.iload_n 1, 1) := by decide +kernel
theorem dX12_reachable_2 : decode cX12_reachable 2 = .ok (.iload_n 1, 1) := by decide +kernel
theorem dX12_reachable_3 : decode cX12_reachable 3 = .ok (.invokevirtual 206, 3) := by decide +kernel
theorem dX12_reachable_6 : decode cX12_reachable 6 = .ok (.ifCond .ne 5, 3) := by decide +kernel
theorem dX12_reachable_9 : decode cX12_reachable 9 = .ok (.iconst 0, 1) := by decide +kernel
theorem dX12_reachable_10 : decode cX12_reachable 10 = .ok (.ireturn, 1) := by decide +kernel
theorem dX12_reachable_11 : decode cX12_reachable 11 = .ok (.iconst 1, 1) := by decide +kernel
theorem dX12_reachable_12 : decode cX12_reachable 12 = .ok (.iload_n 1, 1) := by decide +kernel
theorem dX12_reachable_13 : decode cX12_reachable 13 = .ok (.ishl, 1) := by decide +kernel
theorem dX12_reachable_14 : decode cX12_reachable 14 = .ok (.istore_n 2, 1) := by decide +kernel
theorem dX12_reachable_15 : decode cX12_reachable 15 = .ok (.iconst 0, 1) := by decide +kernel
theorem dX12_reachable_16 : decode cX12_reachable 16 = .ok (.istore_n 3, 1) := by decide +kernel
theorem dX12_reachable_17 : decode cX12_reachable 17 = .ok (.iload_n 3, 1) := by decide +kernel
theorem dX12_reachable_18 : decode cX12_reachable 18 = .ok (.bipush 8, 2) := by decide +kernel
theorem dX12_reachable_20 : decode cX12_reachable 20 = .ok (.if_icmp .ge 15, 3) := by decide +kernel
theorem dX12_reachable_23 : decode cX12_reachable 23 = .ok (.aload_n 0, 1) := by decide +kernel
theorem dX12_reachable_24 : decode cX12_reachable 24 = .ok (.iload_n 2, 1) := by decide +kernel
theorem dX12_reachable_25 : decode cX12_reachable 25 = .ok (.invokevirtual 212, 3) := by decide +kernel
theorem dX12_reachable_28 : decode cX12_reachable 28 = .ok (.istore_n 2, 1) := by decide +kernel
theorem dX12_reachable_29 : decode cX12_reachable 29 = .ok (.iinc 3 1, 3) := by decide +kernel
theorem dX12_reachable_32 : decode cX12_reachable 32 = .ok (.goto (-15), 3) := by decide +kernel
theorem dX12_reachable_35 : decode cX12_reachable 35 = .ok (.iconst 0, 1) := by decide +kernel
theorem dX12_reachable_36 : decode cX12_reachable 36 = .ok (.istore_n 3, 1) := by decide +kernel
theorem dX12_reachable_37 : decode cX12_reachable 37 = .ok (.iconst 0, 1) := by decide +kernel
theorem dX12_reachable_38 : decode cX12_reachable 38 = .ok (.istore 4, 2) := by decide +kernel
theorem dX12_reachable_40 : decode cX12_reachable 40 = .ok (.iload 4, 2) := by decide +kernel
theorem dX12_reachable_42 : decode cX12_reachable 42 = .ok (.bipush 8, 2) := by decide +kernel
theorem dX12_reachable_44 : decode cX12_reachable 44 = .ok (.if_icmp .ge 18, 3) := by decide +kernel
theorem dX12_reachable_47 : decode cX12_reachable 47 = .ok (.iload_n 3, 1) := by decide +kernel
theorem dX12_reachable_48 : decode cX12_reachable 48 = .ok (.iload_n 2, 1) := by decide +kernel
theorem dX12_reachable_49 : decode cX12_reachable 49 = .ok (.iload 4, 2) := by decide +kernel
theorem dX12_reachable_51 : decode cX12_reachable 51 = .ok (.ishr, 1) := by decide +kernel
theorem dX12_reachable_52 : decode cX12_reachable 52 = .ok (.iconst 1, 1) := by decide +kernel
theorem dX12_reachable_53 : decode cX12_reachable 53 = .ok (.iand, 1) := by decide +kernel
theorem dX12_reachable_54 : decode cX12_reachable 54 = .ok (.iadd, 1) := by decide +kernel
theorem dX12_reachable_55 : decode cX12_reachable 55 = .ok (.istore_n 3, 1) := by decide +kernel
theorem dX12_reachable_56 : decode cX12_reachable 56 = .ok (.iinc 4 1, 3) := by decide +kernel
theorem dX12_reachable_59 : decode cX12_reachable 59 = .ok (.goto (-19), 3) := by decide +kernel
theorem dX12_reachable_62 : decode cX12_reachable 62 = .ok (.iload_n 3, 1) := by decide +kernel
theorem dX12_reachable_63 : decode cX12_reachable 63 = .ok (.ireturn, 1) := by decide +kernel
theorem dX12_logLength_0 : decode cX12_logLength 0 = .ok (.aload_n 0, 1) := by decide +kernel
theorem dX12_logLength_1 : decode cX12_logLength 1 = .ok (.aload_n 0, 1) := by decide +kernel
theorem dX12_logLength_2 : decode cX12_logLength 2 = .ok (.getfield 7, 3) := by decide +kernel
theorem dX12_logLength_5 : decode cX12_logLength 5 = .ok (.iconst 4, 1) := by decide +kernel
theorem dX12_logLength_6 : decode cX12_logLength 6 = .ok (.iaload, 1) := by decide +kernel
theorem dX12_logLength_7 : decode cX12_logLength 7 = .ok (.invokevirtual 194, 3) := by decide +kernel
theorem dX12_logLength_10 : decode cX12_logLength 10 = .ok (.ireturn, 1) := by decide +kernel
theorem dX12_logged_0 : decode cX12_logged 0 = .ok (.aload_n 0, 1) := by decide +kernel
theorem dX12_logged_1 : decode cX12_logged 1 = .ok (.iload_n 1, 1) := by decide +kernel
theorem dX12_logged_2 : decode cX12_logged 2 = .ok (.iconst 0, 1) := by decide +kernel
theorem dX12_logged_3 : decode cX12_logged 3 = .ok (.aload_n 0, 1) := by decide +kernel
theorem dX12_logged_4 : decode cX12_logged 4 = .ok (.getfield 7, 3) := by decide +kernel
theorem dX12_logged_7 : decode cX12_logged 7 = .ok (.iconst 4, 1) := by decide +kernel
theorem dX12_logged_8 : decode cX12_logged 8 = .ok (.iaload, 1) := by decide +kernel
theorem dX12_logged_9 : decode cX12_logged 9 = .ok (.iconst 1, 1) := by decide +kernel
theorem dX12_logged_10 : decode cX12_logged 10 = .ok (.isub, 1) := by decide +kernel
theorem dX12_logged_11 : decode cX12_logged 11 = .ok (.invokestatic 76, 3) := by decide +kernel
theorem dX12_logged_14 : decode cX12_logged 14 = .ok (.ifCond .eq 7, 3) := by decide +kernel
theorem dX12_logged_17 : decode cX12_logged 17 = .ok (.iconst 0, 1) := by decide +kernel
theorem dX12_logged_18 : decode cX12_logged 18 = .ok (.goto 4, 3) := by decide +kernel
theorem dX12_logged_21 : decode cX12_logged 21 = .ok (.iconst 1, 1) := by decide +kernel
theorem dX12_logged_22 : decode cX12_logged 22 = .ok (.putfield 22, 3) := by decide +kernel
theorem dX12_logged_25 : decode cX12_logged 25 = .ok (.aload_n 0, 1) := by decide +kernel
theorem dX12_logged_26 : decode cX12_logged 26 = .ok (.getfield 22, 3) := by decide +kernel
theorem dX12_logged_29 : decode cX12_logged 29 = .ok (.ifCond .le 7, 3) := by decide +kernel
theorem dX12_logged_32 : decode cX12_logged 32 = .ok (.iconst 0, 1) := by decide +kernel
theorem dX12_logged_33 : decode cX12_logged 33 = .ok (.goto 16, 3) := by decide +kernel
theorem dX12_logged_36 : decode cX12_logged 36 = .ok (.aload_n 0, 1) := by decide +kernel
theorem dX12_logged_37 : decode cX12_logged 37 = .ok (.getfield 7, 3) := by decide +kernel
theorem dX12_logged_40 : decode cX12_logged 40 = .ok (.bipush 108, 2) := by decide +kernel
theorem dX12_logged_42 : decode cX12_logged 42 = .ok (.iconst 3, 1) := by decide +kernel
theorem dX12_logged_43 : decode cX12_logged 43 = .ok (.iload_n 1, 1) := by decide +kernel
theorem dX12_logged_44 : decode cX12_logged 44 = .ok (.imul, 1) := by decide +kernel
theorem dX12_logged_45 : decode cX12_logged 45 = .ok (.iadd, 1) := by decide +kernel
theorem dX12_logged_46 : decode cX12_logged 46 = .ok (.iload_n 2, 1) := by decide +kernel
theorem dX12_logged_47 : decode cX12_logged 47 = .ok (.iadd, 1) := by decide +kernel
theorem dX12_logged_48 : decode cX12_logged 48 = .ok (.iaload, 1) := by decide +kernel
theorem dX12_logged_49 : decode cX12_logged 49 = .ok (.ireturn, 1) := by decide +kernel
theorem dX12_logStation_0 : decode cX12_logStation 0 = .ok (.aload_n 0, 1) := by decide +kernel
theorem dX12_logStation_1 : decode cX12_logStation 1 = .ok (.iload_n 1, 1) := by decide +kernel
theorem dX12_logStation_2 : decode cX12_logStation 2 = .ok (.iconst 0, 1) := by decide +kernel
theorem dX12_logStation_3 : decode cX12_logStation 3 = .ok (.invokevirtual 218, 3) := by decide +kernel
theorem dX12_logStation_6 : decode cX12_logStation 6 = .ok (.ireturn, 1) := by decide +kernel
theorem dX12_logBegin_0 : decode cX12_logBegin 0 = .ok (.aload_n 0, 1) := by decide +kernel
theorem dX12_logBegin_1 : decode cX12_logBegin 1 = .ok (.iload_n 1, 1) := by decide +kernel
theorem dX12_logBegin_2 : decode cX12_logBegin 2 = .ok (.iconst 1, 1) := by decide +kernel
theorem dX12_logBegin_3 : decode cX12_logBegin 3 = .ok (.invokevirtual 218, 3) := by decide +kernel
theorem dX12_logBegin_6 : decode cX12_logBegin 6 = .ok (.ireturn, 1) := by decide +kernel
theorem dX12_logMinutes_0 : decode cX12_logMinutes 0 = .ok (.aload_n 0, 1) := by decide +kernel
theorem dX12_logMinutes_1 : decode cX12_logMinutes 1 = .ok (.iload_n 1, 1) := by decide +kernel
theorem dX12_logMinutes_2 : decode cX12_logMinutes 2 = .ok (.iconst 2, 1) := by decide +kernel
theorem dX12_logMinutes_3 : decode cX12_logMinutes 3 = .ok (.invokevirtual 218, 3) := by decide +kernel
theorem dX12_logMinutes_6 : decode cX12_logMinutes 6 = .ok (.ireturn, 1) := by decide +kernel
theorem dX12_time_0 : decode cX12_time 0 = .ok (.aload_n 0, 1) := by decide +kernel
theorem dX12_time_1 : decode cX12_time 1 = .ok (.aload_n 0, 1) := by decide +kernel
theorem dX12_time_2 : decode cX12_time 2 = .ok (.getfield 7, 3) := by decide +kernel
theorem dX12_time_5 : decode cX12_time 5 = .ok (.iconst 1, 1) := by decide +kernel
theorem dX12_time_6 : decode cX12_time 6 = .ok (.iaload, 1) := by decide +kernel
theorem dX12_time_7 : decode cX12_time 7 = .ok (.invokevirtual 194, 3) := by decide +kernel
theorem dX12_time_10 : decode cX12_time 10 = .ok (.ireturn, 1) := by decide +kernel
theorem dX12_turnLimit_0 : decode cX12_turnLimit 0 = .ok (.aload_n 0, 1) := by decide +kernel
theorem dX12_turnLimit_1 : decode cX12_turnLimit 1 = .ok (.aload_n 0, 1) := by decide +kernel
theorem dX12_turnLimit_2 : decode cX12_turnLimit 2 = .ok (.getfield 7, 3) := by decide +kernel
theorem dX12_turnLimit_5 : decode cX12_turnLimit 5 = .ok (.iconst 2, 1) := by decide +kernel
theorem dX12_turnLimit_6 : decode cX12_turnLimit 6 = .ok (.iaload, 1) := by decide +kernel
theorem dX12_turnLimit_7 : decode cX12_turnLimit 7 = .ok (.invokevirtual 194, 3) := by decide +kernel
theorem dX12_turnLimit_10 : decode cX12_turnLimit 10 = .ok (.ireturn, 1) := by decide +kernel
theorem dX12_sum_0 : decode cX12_sum 0 = .ok (.iconst 0, 1) := by decide +kernel
theorem dX12_sum_1 : decode cX12_sum 1 = .ok (.istore_n 2, 1) := by decide +kernel
theorem dX12_sum_2 : decode cX12_sum 2 = .ok (.iconst 0, 1) := by decide +kernel
theorem dX12_sum_3 : decode cX12_sum 3 = .ok (.istore_n 3, 1) := by decide +kernel
theorem dX12_sum_4 : decode cX12_sum 4 = .ok (.iload_n 3, 1) := by decide +kernel
theorem dX12_sum_5 : decode cX12_sum 5 = .ok (.aload_n 0, 1) := by decide +kernel
theorem dX12_sum_6 : decode cX12_sum 6 = .ok (.getfield 7, 3) := by decide +kernel
theorem dX12_sum_9 : decode cX12_sum 9 = .ok (.iconst 0, 1) := by decide +kernel
theorem dX12_sum_10 : decode cX12_sum 10 = .ok (.iaload, 1) := by decide +kernel
theorem dX12_sum_11 : decode cX12_sum 11 = .ok (.if_icmp .ge 18, 3) := by decide +kernel
theorem dX12_sum_14 : decode cX12_sum 14 = .ok (.iload_n 2, 1) := by decide +kernel
theorem dX12_sum_15 : decode cX12_sum 15 = .ok (.aload_n 0, 1) := by decide +kernel
theorem dX12_sum_16 : decode cX12_sum 16 = .ok (.iload_n 3, 1) := by decide +kernel
theorem dX12_sum_17 : decode cX12_sum 17 = .ok (.iload_n 1, 1) := by decide +kernel
theorem dX12_sum_18 : decode cX12_sum 18 = .ok (.invokevirtual 80, 3) := by decide +kernel
theorem dX12_sum_21 : decode cX12_sum 21 = .ok (.iadd, 1) := by decide +kernel
theorem dX12_sum_22 : decode cX12_sum 22 = .ok (.istore_n 2, 1) := by decide +kernel
theorem dX12_sum_23 : decode cX12_sum 23 = .ok (.iinc 3 1, 3) := by decide +kernel
theorem dX12_sum_26 : decode cX12_sum 26 = .ok (.goto (-22), 3) := by decide +kernel
theorem dX12_sum_29 : decode cX12_sum 29 = .ok (.iload_n 2, 1) := by decide +kernel
theorem dX12_sum_30 : decode cX12_sum 30 = .ok (.ireturn, 1) := by decide +kernel
theorem dX12_isConsistent_0 : decode cX12_isConsistent 0 = .ok (.aload_n 0, 1) := by decide +kernel
theorem dX12_isConsistent_1 : decode cX12_isConsistent 1 = .ok (.iconst 1, 1) := by decide +kernel
theorem dX12_isConsistent_2 : decode cX12_isConsistent 2 = .ok (.invokevirtual 194, 3) := by decide +kernel
theorem dX12_isConsistent_5 : decode cX12_isConsistent 5 = .ok (.iconst 1, 1) := by decide +kernel
theorem dX12_isConsistent_6 : decode cX12_isConsistent 6 = .ok (.if_icmp .ne 7, 3) := by decide +kernel
theorem dX12_isConsistent_9 : decode cX12_isConsistent 9 = .ok (.iconst 1, 1) := by decide +kernel
theorem dX12_isConsistent_10 : decode cX12_isConsistent 10 = .ok (.goto 4, 3) := by decide +kernel
theorem dX12_isConsistent_13 : decode cX12_isConsistent 13 = .ok (.iconst 0, 1) := by decide +kernel
theorem dX12_isConsistent_14 : decode cX12_isConsistent 14 = .ok (.ireturn, 1) := by decide +kernel
theorem dX12_write_0 : decode cX12_write 0 = .ok (.aload_n 0, 1) := by decide +kernel
theorem dX12_write_1 : decode cX12_write 1 = .ok (.getfield 39, 3) := by decide +kernel
theorem dX12_write_4 : decode cX12_write 4 = .ok (.aload_n 0, 1) := by decide +kernel
theorem dX12_write_5 : decode cX12_write 5 = .ok (.getfield 42, 3) := by decide +kernel
theorem dX12_write_8 : decode cX12_write 8 = .ok (.iload_n 1, 1) := by decide +kernel
theorem dX12_write_9 : decode cX12_write 9 = .ok (.iastore, 1) := by decide +kernel
theorem dX12_write_10 : decode cX12_write 10 = .ok (.aload_n 0, 1) := by decide +kernel
theorem dX12_write_11 : decode cX12_write 11 = .ok (.dup, 1) := by decide +kernel
theorem dX12_write_12 : decode cX12_write 12 = .ok (.getfield 42, 3) := by decide +kernel
theorem dX12_write_15 : decode cX12_write 15 = .ok (.iconst 1, 1) := by decide +kernel
theorem dX12_write_16 : decode cX12_write 16 = .ok (.iadd, 1) := by decide +kernel
theorem dX12_write_17 : decode cX12_write 17 = .ok (.putfield 42, 3) := by decide +kernel
theorem dX12_write_20 : decode cX12_write 20 = .ok (.return_, 1) := by decide +kernel
theorem dX12_writeNumber_0 : decode cX12_writeNumber 0 = .ok (.iload_n 1, 1) := by decide +kernel
theorem dX12_writeNumber_1 : decode cX12_writeNumber 1 = .ok (.bipush 9, 2) := by decide +kernel
theorem dX12_writeNumber_3 : decode cX12_writeNumber 3 = .ok (.if_icmp .le 14, 3) := by decide +kernel
theorem dX12_writeNumber_6 : decode cX12_writeNumber 6 = .ok (.aload_n 0, 1) := by decide +kernel
theorem dX12_writeNumber_7 : decode cX12_writeNumber 7 = .ok (.bipush 48, 2) := by decide +kernel
theorem dX12_writeNumber_9 : decode cX12_writeNumber 9 = .ok (.iload_n 1, 1) := by decide +kernel
theorem dX12_writeNumber_10 : decode cX12_writeNumber 10 = .ok (.bipush 10, 2) := by decide +kernel
theorem dX12_writeNumber_12 : decode cX12_writeNumber 12 = .ok (.idiv, 1) := by decide +kernel
theorem dX12_writeNumber_13 : decode cX12_writeNumber 13 = .ok (.iadd, 1) := by decide +kernel
theorem dX12_writeNumber_14 : decode cX12_writeNumber 14 = .ok (.invokevirtual 224, 3) := by decide +kernel
theorem dX12_writeNumber_17 : decode cX12_writeNumber 17 = .ok (.aload_n 0, 1) := by decide +kernel
theorem dX12_writeNumber_18 : decode cX12_writeNumber 18 = .ok (.bipush 48, 2) := by decide +kernel
theorem dX12_writeNumber_20 : decode cX12_writeNumber 20 = .ok (.iload_n 1, 1) := by decide +kernel
theorem dX12_writeNumber_21 : decode cX12_writeNumber 21 = .ok (.bipush 10, 2) := by decide +kernel
theorem dX12_writeNumber_23 : decode cX12_writeNumber 23 = .ok (.irem, 1) := by decide +kernel
theorem dX12_writeNumber_24 : decode cX12_writeNumber 24 = .ok (.iadd, 1) := by decide +kernel
theorem dX12_writeNumber_25 : decode cX12_writeNumber 25 = .ok (.invokevirtual 224, 3) := by decide +kernel
theorem dX12_writeNumber_28 : decode cX12_writeNumber 28 = .ok (.return_, 1) := by decide +kernel
theorem dX12_writeSign_0 : decode cX12_writeSign 0 = .ok (.aload_n 0, 1) := by decide +kernel
theorem dX12_writeSign_1 : decode cX12_writeSign 1 = .ok (.aload_n 0, 1) := by decide +kernel
theorem dX12_writeSign_2 : decode cX12_writeSign 2 = .ok (.iload_n 1, 1) := by decide +kernel
theorem dX12_writeSign_3 : decode cX12_writeSign 3 = .ok (.iconst 0, 1) := by decide +kernel
theorem dX12_writeSign_4 : decode cX12_writeSign 4 = .ok (.invokevirtual 80, 3) := by decide +kernel
theorem dX12_writeSign_7 : decode cX12_writeSign 7 = .ok (.invokevirtual 224, 3) := by decide +kernel
theorem dX12_writeSign_10 : decode cX12_writeSign 10 = .ok (.aload_n 0, 1) := by decide +kernel
theorem dX12_writeSign_11 : decode cX12_writeSign 11 = .ok (.bipush 48, 2) := by decide +kernel
theorem dX12_writeSign_13 : decode cX12_writeSign 13 = .ok (.aload_n 0, 1) := by decide +kernel
theorem dX12_writeSign_14 : decode cX12_writeSign 14 = .ok (.iload_n 1, 1) := by decide +kernel
theorem dX12_writeSign_15 : decode cX12_writeSign 15 = .ok (.iconst 1, 1) := by decide +kernel
theorem dX12_writeSign_16 : decode cX12_writeSign 16 = .ok (.invokevirtual 80, 3) := by decide +kernel
theorem dX12_writeSign_19 : decode cX12_writeSign 19 = .ok (.iadd, 1) := by decide +kernel
theorem dX12_writeSign_20 : decode cX12_writeSign 20 = .ok (.invokevirtual 224, 3) := by decide +kernel
theorem dX12_writeSign_23 : decode cX12_writeSign 23 = .ok (.return_, 1) := by decide +kernel
theorem dX12_writeStation_0 : decode cX12_writeStation 0 = .ok (.aload_n 0, 1) := by decide +kernel
theorem dX12_writeStation_1 : decode cX12_writeStation 1 = .ok (.iload_n 1, 1) := by decide +kernel
theorem dX12_writeStation_2 : decode cX12_writeStation 2 = .ok (.iload_n 1, 1) := by decide +kernel
theorem dX12_writeStation_3 : decode cX12_writeStation 3 = .ok (.invokevirtual 206, 3) := by decide +kernel
theorem dX12_writeStation_6 : decode cX12_writeStation 6 = .ok (.ifCond .ne 5, 3) := by decide +kernel
theorem dX12_writeStation_9 : decode cX12_writeStation 9 = .ok (.iconst 0, 1) := by decide +kernel
theorem dX12_writeStation_10 : decode cX12_writeStation 10 = .ok (.ireturn, 1) := by decide +kernel
theorem dX12_writeStation_11 : decode cX12_writeStation 11 = .ok (.aload_n 0, 1) := by decide +kernel
theorem dX12_writeStation_12 : decode cX12_writeStation 12 = .ok (.iconst 0, 1) := by decide +kernel
theorem dX12_writeStation_13 : decode cX12_writeStation 13 = .ok (.putfield 42, 3) := by decide +kernel
theorem dX12_writeStation_16 : decode cX12_writeStation 16 = .ok (.aload_n 0, 1) := by decide +kernel
theorem dX12_writeStation_17 : decode cX12_writeStation 17 = .ok (.iload_n 1, 1) := by decide +kernel
theorem dX12_writeStation_18 : decode cX12_writeStation 18 = .ok (.invokevirtual 227, 3) := by decide +kernel
theorem dX12_writeStation_21 : decode cX12_writeStation 21 = .ok (.aload_n 0, 1) := by decide +kernel
theorem dX12_writeStation_22 : decode cX12_writeStation 22 = .ok (.bipush 64, 2) := by decide +kernel
theorem dX12_writeStation_24 : decode cX12_writeStation 24 = .ok (.invokevirtual 224, 3) := by decide +kernel
theorem dX12_writeStation_27 : decode cX12_writeStation 27 = .ok (.aload_n 0, 1) := by decide +kernel
theorem dX12_writeStation_28 : decode cX12_writeStation 28 = .ok (.aload_n 0, 1) := by decide +kernel
theorem dX12_writeStation_29 : decode cX12_writeStation 29 = .ok (.iload_n 1, 1) := by decide +kernel
theorem dX12_writeStation_30 : decode cX12_writeStation 30 = .ok (.iconst 2, 1) := by decide +kernel
theorem dX12_writeStation_31 : decode cX12_writeStation 31 = .ok (.invokevirtual 80, 3) := by decide +kernel
theorem dX12_writeStation_34 : decode cX12_writeStation 34 = .ok (.invokevirtual 230, 3) := by decide +kernel
theorem dX12_writeStation_37 : decode cX12_writeStation 37 = .ok (.aload_n 0, 1) := by decide +kernel
theorem dX12_writeStation_38 : decode cX12_writeStation 38 = .ok (.bipush 44, 2) := by decide +kernel
theorem dX12_writeStation_40 : decode cX12_writeStation 40 = .ok (.invokevirtual 224, 3) := by decide +kernel
theorem dX12_writeStation_43 : decode cX12_writeStation 43 = .ok (.aload_n 0, 1) := by decide +kernel
theorem dX12_writeStation_44 : decode cX12_writeStation 44 = .ok (.aload_n 0, 1) := by decide +kernel
theorem dX12_writeStation_45 : decode cX12_writeStation 45 = .ok (.iload_n 1, 1) := by decide +kernel
theorem dX12_writeStation_46 : decode cX12_writeStation 46 = .ok (.iconst 3, 1) := by decide +kernel
theorem dX12_writeStation_47 : decode cX12_writeStation 47 = .ok (.invokevirtual 80, 3) := by decide +kernel
theorem dX12_writeStation_50 : decode cX12_writeStation 50 = .ok (.invokevirtual 230, 3) := by decide +kernel
theorem dX12_writeStation_53 : decode cX12_writeStation 53 = .ok (.aload_n 0, 1) := by decide +kernel
theorem dX12_writeStation_54 : decode cX12_writeStation 54 = .ok (.bipush 35, 2) := by decide +kernel
theorem dX12_writeStation_56 : decode cX12_writeStation 56 = .ok (.invokevirtual 224, 3) := by decide +kernel
theorem dX12_writeStation_59 : decode cX12_writeStation 59 = .ok (.aload_n 0, 1) := by decide +kernel
theorem dX12_writeStation_60 : decode cX12_writeStation 60 = .ok (.aload_n 0, 1) := by decide +kernel
theorem dX12_writeStation_61 : decode cX12_writeStation 61 = .ok (.iload_n 1, 1) := by decide +kernel
theorem dX12_writeStation_62 : decode cX12_writeStation 62 = .ok (.iconst 5, 1) := by decide +kernel
theorem dX12_writeStation_63 : decode cX12_writeStation 63 = .ok (.invokevirtual 80, 3) := by decide +kernel
theorem dX12_writeStation_66 : decode cX12_writeStation 66 = .ok (.invokevirtual 230, 3) := by decide +kernel
theorem dX12_writeStation_69 : decode cX12_writeStation 69 = .ok (.aload_n 0, 1) := by decide +kernel
theorem dX12_writeStation_70 : decode cX12_writeStation 70 = .ok (.iload_n 1, 1) := by decide +kernel
theorem dX12_writeStation_71 : decode cX12_writeStation 71 = .ok (.bipush 6, 2) := by decide +kernel
theorem dX12_writeStation_73 : decode cX12_writeStation 73 = .ok (.invokevirtual 80, 3) := by decide +kernel
theorem dX12_writeStation_76 : decode cX12_writeStation 76 = .ok (.iconst 1, 1) := by decide +kernel
theorem dX12_writeStation_77 : decode cX12_writeStation 77 = .ok (.if_icmp .ne 9, 3) := by decide +kernel
theorem dX12_writeStation_80 : decode cX12_writeStation 80 = .ok (.aload_n 0, 1) := by decide +kernel
theorem dX12_writeStation_81 : decode cX12_writeStation 81 = .ok (.bipush 33, 2) := by decide +kernel
theorem dX12_writeStation_83 : decode cX12_writeStation 83 = .ok (.invokevirtual 224, 3) := by decide +kernel
theorem dX12_writeStation_86 : decode cX12_writeStation 86 = .ok (.aload_n 0, 1) := by decide +kernel
theorem dX12_writeStation_87 : decode cX12_writeStation 87 = .ok (.iload_n 1, 1) := by decide +kernel
theorem dX12_writeStation_88 : decode cX12_writeStation 88 = .ok (.bipush 6, 2) := by decide +kernel
theorem dX12_writeStation_90 : decode cX12_writeStation 90 = .ok (.invokevirtual 80, 3) := by decide +kernel
theorem dX12_writeStation_93 : decode cX12_writeStation 93 = .ok (.iconst 2, 1) := by decide +kernel
theorem dX12_writeStation_94 : decode cX12_writeStation 94 = .ok (.if_icmp .ne 9, 3) := by decide +kernel
theorem dX12_writeStation_97 : decode cX12_writeStation 97 = .ok (.aload_n 0, 1) := by decide +kernel
theorem dX12_writeStation_98 : decode cX12_writeStation 98 = .ok (.bipush 63, 2) := by decide +kernel
theorem dX12_writeStation_100 : decode cX12_writeStation 100 = .ok (.invokevirtual 224, 3) := by decide +kernel
theorem dX12_writeStation_103 : decode cX12_writeStation 103 = .ok (.aload_n 0, 1) := by decide +kernel
theorem dX12_writeStation_104 : decode cX12_writeStation 104 = .ok (.getfield 42, 3) := by decide +kernel
theorem dX12_writeStation_107 : decode cX12_writeStation 107 = .ok (.ireturn, 1) := by decide +kernel
theorem dX12_writeChannel_0 : decode cX12_writeChannel 0 = .ok (.aload_n 0, 1) := by decide +kernel
theorem dX12_writeChannel_1 : decode cX12_writeChannel 1 = .ok (.iload_n 1, 1) := by decide +kernel
theorem dX12_writeChannel_2 : decode cX12_writeChannel 2 = .ok (.invokestatic 101, 3) := by decide +kernel
theorem dX12_writeChannel_5 : decode cX12_writeChannel 5 = .ok (.ifCond .eq 7, 3) := by decide +kernel
theorem dX12_writeChannel_8 : decode cX12_writeChannel 8 = .ok (.iconst 0, 1) := by decide +kernel
theorem dX12_writeChannel_9 : decode cX12_writeChannel 9 = .ok (.goto 4, 3) := by decide +kernel
theorem dX12_writeChannel_12 : decode cX12_writeChannel 12 = .ok (.iconst 1, 1) := by decide +kernel
theorem dX12_writeChannel_13 : decode cX12_writeChannel 13 = .ok (.putfield 22, 3) := by decide +kernel
theorem dX12_writeChannel_16 : decode cX12_writeChannel 16 = .ok (.aload_n 0, 1) := by decide +kernel
theorem dX12_writeChannel_17 : decode cX12_writeChannel 17 = .ok (.getfield 22, 3) := by decide +kernel
theorem dX12_writeChannel_20 : decode cX12_writeChannel 20 = .ok (.ifCond .le 5, 3) := by decide +kernel
theorem dX12_writeChannel_23 : decode cX12_writeChannel 23 = .ok (.iconst 0, 1) := by decide +kernel
theorem dX12_writeChannel_24 : decode cX12_writeChannel 24 = .ok (.ireturn, 1) := by decide +kernel
theorem dX12_writeChannel_25 : decode cX12_writeChannel 25 = .ok (.aload_n 0, 1) := by decide +kernel
theorem dX12_writeChannel_26 : decode cX12_writeChannel 26 = .ok (.iconst 0, 1) := by decide +kernel
theorem dX12_writeChannel_27 : decode cX12_writeChannel 27 = .ok (.putfield 42, 3) := by decide +kernel
theorem dX12_writeChannel_30 : decode cX12_writeChannel 30 = .ok (.aload_n 0, 1) := by decide +kernel
theorem dX12_writeChannel_31 : decode cX12_writeChannel 31 = .ok (.iload_n 1, 1) := by decide +kernel
theorem dX12_writeChannel_32 : decode cX12_writeChannel 32 = .ok (.invokevirtual 150, 3) := by decide +kernel
theorem dX12_writeChannel_35 : decode cX12_writeChannel 35 = .ok (.ifCond .ge 5, 3) := by decide +kernel
theorem dX12_writeChannel_38 : decode cX12_writeChannel 38 = .ok (.iconst 0, 1) := by decide +kernel
theorem dX12_writeChannel_39 : decode cX12_writeChannel 39 = .ok (.ireturn, 1) := by decide +kernel
theorem dX12_writeChannel_40 : decode cX12_writeChannel 40 = .ok (.aload_n 0, 1) := by decide +kernel
theorem dX12_writeChannel_41 : decode cX12_writeChannel 41 = .ok (.aload_n 0, 1) := by decide +kernel
theorem dX12_writeChannel_42 : decode cX12_writeChannel 42 = .ok (.iload_n 1, 1) := by decide +kernel
theorem dX12_writeChannel_43 : decode cX12_writeChannel 43 = .ok (.invokevirtual 150, 3) := by decide +kernel
theorem dX12_writeChannel_46 : decode cX12_writeChannel 46 = .ok (.invokevirtual 227, 3) := by decide +kernel
theorem dX12_writeChannel_49 : decode cX12_writeChannel 49 = .ok (.iconst 1, 1) := by decide +kernel
theorem dX12_writeChannel_50 : decode cX12_writeChannel 50 = .ok (.istore_n 2, 1) := by decide +kernel
theorem dX12_writeChannel_51 : decode cX12_writeChannel 51 = .ok (.iload_n 2, 1) := by decide +kernel
theorem dX12_writeChannel_52 : decode cX12_writeChannel 52 = .ok (.aload_n 0, 1) := by decide +kernel
theorem dX12_writeChannel_53 : decode cX12_writeChannel 53 = .ok (.iload_n 1, 1) := by decide +kernel
theorem dX12_writeChannel_54 : decode cX12_writeChannel 54 = .ok (.invokevirtual 172, 3) := by decide +kernel
theorem dX12_writeChannel_57 : decode cX12_writeChannel 57 = .ok (.if_icmp .gt 25, 3) := by decide +kernel
theorem dX12_writeChannel_60 : decode cX12_writeChannel 60 = .ok (.aload_n 0, 1) := by decide +kernel
theorem dX12_writeChannel_61 : decode cX12_writeChannel 61 = .ok (.bipush 60, 2) := by decide +kernel
theorem dX12_writeChannel_63 : decode cX12_writeChannel 63 = .ok (.invokevirtual 224, 3) := by decide +kernel
theorem dX12_writeChannel_66 : decode cX12_writeChannel 66 = .ok (.aload_n 0, 1) := by decide +kernel
theorem dX12_writeChannel_67 : decode cX12_writeChannel 67 = .ok (.aload_n 0, 1) := by decide +kernel
theorem dX12_writeChannel_68 : decode cX12_writeChannel 68 = .ok (.iload_n 1, 1) := by decide +kernel
theorem dX12_writeChannel_69 : decode cX12_writeChannel 69 = .ok (.iload_n 2, 1) := by decide +kernel
theorem dX12_writeChannel_70 : decode cX12_writeChannel 70 = .ok (.invokevirtual 166, 3) := by decide +kernel
theorem dX12_writeChannel_73 : decode cX12_writeChannel 73 = .ok (.invokevirtual 227, 3) := by decide +kernel
theorem dX12_writeChannel_76 : decode cX12_writeChannel 76 = .ok (.iinc 2 1, 3) := by decide +kernel
theorem dX12_writeChannel_79 : decode cX12_writeChannel 79 = .ok (.goto (-28), 3) := by decide +kernel
theorem dX12_writeChannel_82 : decode cX12_writeChannel 82 = .ok (.aload_n 0, 1) := by decide +kernel
theorem dX12_writeChannel_83 : decode cX12_writeChannel 83 = .ok (.getfield 42, 3) := by decide +kernel
theorem dX12_writeChannel_86 : decode cX12_writeChannel 86 = .ok (.ireturn, 1) := by decide +kernel
theorem dX12_charAt_0 : decode cX12_charAt 0 = .ok (.aload_n 0, 1) := by decide +kernel
theorem dX12_charAt_1 : decode cX12_charAt 1 = .ok (.iload_n 1, 1) := by decide +kernel
theorem dX12_charAt_2 : decode cX12_charAt 2 = .ok (.iconst 0, 1) := by decide +kernel
theorem dX12_charAt_3 : decode cX12_charAt 3 = .ok (.aload_n 0, 1) := by decide +kernel
theorem dX12_charAt_4 : decode cX12_charAt 4 = .ok (.getfield 42, 3) := by decide +kernel
theorem dX12_charAt_7 : decode cX12_charAt 7 = .ok (.iconst 1, 1) := by decide +kernel
theorem dX12_charAt_8 : decode cX12_charAt 8 = .ok (.isub, 1) := by decide +kernel
theorem dX12_charAt_9 : decode cX12_charAt 9 = .ok (.invokestatic 76, 3) := by decide +kernel
theorem dX12_charAt_12 : decode cX12_charAt 12 = .ok (.ifCond .eq 7, 3) := by decide +kernel
theorem dX12_charAt_15 : decode cX12_charAt 15 = .ok (.iconst 0, 1) := by decide +kernel
theorem dX12_charAt_16 : decode cX12_charAt 16 = .ok (.goto 4, 3) := by decide +kernel
theorem dX12_charAt_19 : decode cX12_charAt 19 = .ok (.iconst 1, 1) := by decide +kernel
theorem dX12_charAt_20 : decode cX12_charAt 20 = .ok (.putfield 22, 3) := by decide +kernel
theorem dX12_charAt_23 : decode cX12_charAt 23 = .ok (.aload_n 0, 1) := by decide +kernel
theorem dX12_charAt_24 : decode cX12_charAt 24 = .ok (.getfield 22, 3) := by decide +kernel
theorem dX12_charAt_27 : decode cX12_charAt 27 = .ok (.ifCond .le 8, 3) := by decide +kernel
theorem dX12_charAt_30 : decode cX12_charAt 30 = .ok (.bipush 32, 2) := by decide +kernel
theorem dX12_charAt_32 : decode cX12_charAt 32 = .ok (.goto 10, 3) := by decide +kernel
theorem dX12_charAt_35 : decode cX12_charAt 35 = .ok (.aload_n 0, 1) := by decide +kernel
theorem dX12_charAt_36 : decode cX12_charAt 36 = .ok (.getfield 39, 3) := by decide +kernel
theorem dX12_charAt_39 : decode cX12_charAt 39 = .ok (.iload_n 1, 1) := by decide +kernel
theorem dX12_charAt_40 : decode cX12_charAt 40 = .ok (.iaload, 1) := by decide +kernel
theorem dX12_charAt_41 : decode cX12_charAt 41 = .ok (.i2c, 1) := by decide +kernel
theorem dX12_charAt_42 : decode cX12_charAt 42 = .ok (.ireturn, 1) := by decide +kernel
theorem dX12_type_0 : decode cX12_type 0 = .ok (.aload_n 0, 1) := by decide +kernel
theorem dX12_type_1 : decode cX12_type 1 = .ok (.aload_n 0, 1) := by decide +kernel
theorem dX12_type_2 : decode cX12_type 2 = .ok (.getfield 57, 3) := by decide +kernel
theorem dX12_type_5 : decode cX12_type 5 = .ok (.bipush 60, 2) := by decide +kernel
theorem dX12_type_7 : decode cX12_type 7 = .ok (.if_icmp .ne 7, 3) := by decide +kernel
theorem dX12_type_10 : decode cX12_type 10 = .ok (.iconst 1, 1) := by decide +kernel
theorem dX12_type_11 : decode cX12_type 11 = .ok (.goto 4, 3) := by decide +kernel
theorem dX12_type_14 : decode cX12_type 14 = .ok (.iconst 0, 1) := by decide +kernel
theorem dX12_type_15 : decode cX12_type 15 = .ok (.putfield 22, 3) := by decide +kernel
theorem dX12_type_18 : decode cX12_type 18 = .ok (.aload_n 0, 1) := by decide +kernel
theorem dX12_type_19 : decode cX12_type 19 = .ok (.getfield 22, 3) := by decide +kernel
theorem dX12_type_22 : decode cX12_type 22 = .ok (.ifCond .le 5, 3) := by decide +kernel
theorem dX12_type_25 : decode cX12_type 25 = .ok (.iconst 0, 1) := by decide +kernel
theorem dX12_type_26 : decode cX12_type 26 = .ok (.ireturn, 1) := by decide +kernel
theorem dX12_type_27 : decode cX12_type 27 = .ok (.aload_n 0, 1) := by decide +kernel
theorem dX12_type_28 : decode cX12_type 28 = .ok (.getfield 45, 3) := by decide +kernel
theorem dX12_type_31 : decode cX12_type 31 = .ok (.aload_n 0, 1) := by decide +kernel
theorem dX12_type_32 : decode cX12_type 32 = .ok (.getfield 57, 3) := by decide +kernel
theorem dX12_type_35 : decode cX12_type 35 = .ok (.iload_n 1, 1) := by decide +kernel
theorem dX12_type_36 : decode cX12_type 36 = .ok (.iastore, 1) := by decide +kernel
theorem dX12_type_37 : decode cX12_type 37 = .ok (.aload_n 0, 1) := by decide +kernel
theorem dX12_type_38 : decode cX12_type 38 = .ok (.dup, 1) := by decide +kernel
theorem dX12_type_39 : decode cX12_type 39 = .ok (.getfield 57, 3) := by decide +kernel
theorem dX12_type_42 : decode cX12_type 42 = .ok (.iconst 1, 1) := by decide +kernel
theorem dX12_type_43 : decode cX12_type 43 = .ok (.iadd, 1) := by decide +kernel
theorem dX12_type_44 : decode cX12_type 44 = .ok (.putfield 57, 3) := by decide +kernel
theorem dX12_type_47 : decode cX12_type 47 = .ok (.aload_n 0, 1) := by decide +kernel
theorem dX12_type_48 : decode cX12_type 48 = .ok (.getfield 57, 3) := by decide +kernel
theorem dX12_type_51 : decode cX12_type 51 = .ok (.ireturn, 1) := by decide +kernel
theorem dX12_mark_0 : decode cX12_mark 0 = .ok (.aload_n 0, 1) := by decide +kernel
theorem dX12_mark_1 : decode cX12_mark 1 = .ok (.getfield 69, 3) := by decide +kernel
theorem dX12_mark_4 : decode cX12_mark 4 = .ok (.ifCond .ne 26, 3) := by decide +kernel
theorem dX12_mark_7 : decode cX12_mark 7 = .ok (.aload_n 0, 1) := by decide +kernel
theorem dX12_mark_8 : decode cX12_mark 8 = .ok (.getfield 63, 3) := by decide +kernel
theorem dX12_mark_11 : decode cX12_mark 11 = .ok (.aload_n 0, 1) := by decide +kernel
theorem dX12_mark_12 : decode cX12_mark 12 = .ok (.getfield 60, 3) := by decide +kernel
theorem dX12_mark_15 : decode cX12_mark 15 = .ok (.if_icmp .ge 15, 3) := by decide +kernel
theorem dX12_mark_18 : decode cX12_mark 18 = .ok (.aload_n 0, 1) := by decide +kernel
theorem dX12_mark_19 : decode cX12_mark 19 = .ok (.getfield 45, 3) := by decide +kernel
theorem dX12_mark_22 : decode cX12_mark 22 = .ok (.aload_n 0, 1) := by decide +kernel
theorem dX12_mark_23 : decode cX12_mark 23 = .ok (.getfield 63, 3) := by decide +kernel
theorem dX12_mark_26 : decode cX12_mark 26 = .ok (.iaload, 1) := by decide +kernel
theorem dX12_mark_27 : decode cX12_mark 27 = .ok (.goto 4, 3) := by decide +kernel
theorem dX12_mark_30 : decode cX12_mark 30 = .ok (.iconst (-1), 1) := by decide +kernel
theorem dX12_mark_31 : decode cX12_mark 31 = .ok (.ireturn, 1) := by decide +kernel
theorem dX12_expect_0 : decode cX12_expect 0 = .ok (.aload_n 0, 1) := by decide +kernel
theorem dX12_expect_1 : decode cX12_expect 1 = .ok (.dup, 1) := by decide +kernel
theorem dX12_expect_2 : decode cX12_expect 2 = .ok (.getfield 69, 3) := by decide +kernel
theorem dX12_expect_5 : decode cX12_expect 5 = .ok (.aload_n 0, 1) := by decide +kernel
theorem dX12_expect_6 : decode cX12_expect 6 = .ok (.invokevirtual 233, 3) := by decide +kernel
theorem dX12_expect_9 : decode cX12_expect 9 = .ok (.iload_n 1, 1) := by decide +kernel
theorem dX12_expect_10 : decode cX12_expect 10 = .ok (.if_icmp .eq 7, 3) := by decide +kernel
theorem dX12_expect_13 : decode cX12_expect 13 = .ok (.iconst 1, 1) := by decide +kernel
theorem dX12_expect_14 : decode cX12_expect 14 = .ok (.goto 4, 3) := by decide +kernel
theorem dX12_expect_17 : decode cX12_expect 17 = .ok (.iconst 0, 1) := by decide +kernel
theorem dX12_expect_18 : decode cX12_expect 18 = .ok (.ior, 1) := by decide +kernel
theorem dX12_expect_19 : decode cX12_expect 19 = .ok (.putfield 69, 3) := by decide +kernel
theorem dX12_expect_22 : decode cX12_expect 22 = .ok (.aload_n 0, 1) := by decide +kernel
theorem dX12_expect_23 : decode cX12_expect 23 = .ok (.dup, 1) := by decide +kernel
theorem dX12_expect_24 : decode cX12_expect 24 = .ok (.getfield 63, 3) := by decide +kernel
theorem dX12_expect_27 : decode cX12_expect 27 = .ok (.aload_n 0, 1) := by decide +kernel
theorem dX12_expect_28 : decode cX12_expect 28 = .ok (.getfield 69, 3) := by decide +kernel
theorem dX12_expect_31 : decode cX12_expect 31 = .ok (.ifCond .eq 7, 3) := by decide +kernel
theorem dX12_expect_34 : decode cX12_expect 34 = .ok (.iconst 0, 1) := by decide +kernel
theorem dX12_expect_35 : decode cX12_expect 35 = .ok (.goto 4, 3) := by decide +kernel
theorem dX12_expect_38 : decode cX12_expect 38 = .ok (.iconst 1, 1) := by decide +kernel
theorem dX12_expect_39 : decode cX12_expect 39 = .ok (.iadd, 1) := by decide +kernel
theorem dX12_expect_40 : decode cX12_expect 40 = .ok (.putfield 63, 3) := by decide +kernel
theorem dX12_expect_43 : decode cX12_expect 43 = .ok (.return_, 1) := by decide +kernel
theorem dX12_number_0 : decode cX12_number 0 = .ok (.aload_n 0, 1) := by decide +kernel
theorem dX12_number_1 : decode cX12_number 1 = .ok (.dup, 1) := by decide +kernel
theorem dX12_number_2 : decode cX12_number 2 = .ok (.getfield 69, 3) := by decide +kernel
theorem dX12_number_5 : decode cX12_number 5 = .ok (.aload_n 0, 1) := by decide +kernel
theorem dX12_number_6 : decode cX12_number 6 = .ok (.invokevirtual 233, 3) := by decide +kernel
theorem dX12_number_9 : decode cX12_number 9 = .ok (.bipush 48, 2) := by decide +kernel
theorem dX12_number_11 : decode cX12_number 11 = .ok (.bipush 57, 2) := by decide +kernel
theorem dX12_number_13 : decode cX12_number 13 = .ok (.invokestatic 76, 3) := by decide +kernel
theorem dX12_number_16 : decode cX12_number 16 = .ok (.ifCond .ne 7, 3) := by decide +kernel
theorem dX12_number_19 : decode cX12_number 19 = .ok (.iconst 1, 1) := by decide +kernel
theorem dX12_number_20 : decode cX12_number 20 = .ok (.goto 4, 3) := by decide +kernel
theorem dX12_number_23 : decode cX12_number 23 = .ok (.iconst 0, 1) := by decide +kernel
theorem dX12_number_24 : decode cX12_number 24 = .ok (.ior, 1) := by decide +kernel
theorem dX12_number_25 : decode cX12_number 25 = .ok (.putfield 69, 3) := by decide +kernel
theorem dX12_number_28 : decode cX12_number 28 = .ok (.iconst 0, 1) := by decide +kernel
theorem dX12_number_29 : decode cX12_number 29 = .ok (.istore_n 2, 1) := by decide +kernel
theorem dX12_number_30 : decode cX12_number 30 = .ok (.iconst 0, 1) := by decide +kernel
theorem dX12_number_31 : decode cX12_number 31 = .ok (.istore_n 3, 1) := by decide +kernel
theorem dX12_number_32 : decode cX12_number 32 = .ok (.iload_n 3, 1) := by decide +kernel
theorem dX12_number_33 : decode cX12_number 33 = .ok (.iload_n 1, 1) := by decide +kernel
theorem dX12_number_34 : decode cX12_number 34 = .ok (.if_icmp .ge 51, 3) := by decide +kernel
theorem dX12_number_37 : decode cX12_number 37 = .ok (.aload_n 0, 1) := by decide +kernel
theorem dX12_number_38 : decode cX12_number 38 = .ok (.invokevirtual 233, 3) := by decide +kernel
theorem dX12_number_41 : decode cX12_number 41 = .ok (.bipush 48, 2) := by decide +kernel
theorem dX12_number_43 : decode cX12_number 43 = .ok (.bipush 57, 2) := by decide +kernel
theorem dX12_number_45 : decode cX12_number 45 = .ok (.invokestatic 76, 3) := by decide +kernel
theorem dX12_number_48 : decode cX12_number 48 = .ok (.ifCond .eq 37, 3) := by decide +kernel
theorem dX12_number_51 : decode cX12_number 51 = .ok (.bipush 10, 2) := by decide +kernel
theorem dX12_number_53 : decode cX12_number 53 = .ok (.iload_n 2, 1) := by decide +kernel
theorem dX12_number_54 : decode cX12_number 54 = .ok (.imul, 1) := by decide +kernel
theorem dX12_number_55 : decode cX12_number 55 = .ok (.aload_n 0, 1) := by decide +kernel
theorem dX12_number_56 : decode cX12_number 56 = .ok (.getfield 45, 3) := by decide +kernel
theorem dX12_number_59 : decode cX12_number 59 = .ok (.aload_n 0, 1) := by decide +kernel
theorem dX12_number_60 : decode cX12_number 60 = .ok (.getfield 63, 3) := by decide +kernel
theorem dX12_number_63 : decode cX12_number 63 = .ok (.iaload, 1) := by decide +kernel
theorem dX12_number_64 : decode cX12_number 64 = .ok (.iadd, 1) := by decide +kernel
theorem dX12_number_65 : decode cX12_number 65 = .ok (.bipush 48, 2) := by decide +kernel
theorem dX12_number_67 : decode cX12_number 67 = .ok (.isub, 1) := by decide +kernel
theorem dX12_number_68 : decode cX12_number 68 = .ok (.istore_n 2, 1) := by decide +kernel
theorem dX12_number_69 : decode cX12_number 69 = .ok (.aload_n 0, 1) := by decide +kernel
theorem dX12_number_70 : decode cX12_number 70 = .ok (.dup, 1) := by decide +kernel
theorem dX12_number_71 : decode cX12_number 71 = .ok (.getfield 63, 3) := by decide +kernel
theorem dX12_number_74 : decode cX12_number 74 = .ok (.iconst 1, 1) := by decide +kernel
theorem dX12_number_75 : decode cX12_number 75 = .ok (.iadd, 1) := by decide +kernel
theorem dX12_number_76 : decode cX12_number 76 = .ok (.putfield 63, 3) := by decide +kernel
theorem dX12_number_79 : decode cX12_number 79 = .ok (.iinc 3 1, 3) := by decide +kernel
theorem dX12_number_82 : decode cX12_number 82 = .ok (.goto (-50), 3) := by decide +kernel
theorem dX12_number_85 : decode cX12_number 85 = .ok (.iload_n 2, 1) := by decide +kernel
theorem dX12_number_86 : decode cX12_number 86 = .ok (.ireturn, 1) := by decide +kernel
theorem dX12_capital_0 : decode cX12_capital 0 = .ok (.aload_n 0, 1) := by decide +kernel
theorem dX12_capital_1 : decode cX12_capital 1 = .ok (.invokevirtual 233, 3) := by decide +kernel
theorem dX12_capital_4 : decode cX12_capital 4 = .ok (.istore_n 1, 1) := by decide +kernel
theorem dX12_capital_5 : decode cX12_capital 5 = .ok (.aload_n 0, 1) := by decide +kernel
theorem dX12_capital_6 : decode cX12_capital 6 = .ok (.dup, 1) := by decide +kernel
theorem dX12_capital_7 : decode cX12_capital 7 = .ok (.getfield 69, 3) := by decide +kernel
theorem dX12_capital_10 : decode cX12_capital 10 = .ok (.iload_n 1, 1) := by decide +kernel
theorem dX12_capital_11 : decode cX12_capital 11 = .ok (.bipush 65, 2) := by decide +kernel
theorem dX12_capital_13 : decode cX12_capital 13 = .ok (.bipush 90, 2) := by decide +kernel
theorem dX12_capital_15 : decode cX12_capital 15 = .ok (.invokestatic 76, 3) := by decide +kernel
theorem dX12_capital_18 : decode cX12_capital 18 = .ok (.ifCond .ne 7, 3) := by decide +kernel
theorem dX12_capital_21 : decode cX12_capital 21 = .ok (.iconst 1, 1) := by decide +kernel
theorem dX12_capital_22 : decode cX12_capital 22 = .ok (.goto 4, 3) := by decide +kernel
theorem dX12_capital_25 : decode cX12_capital 25 = .ok (.iconst 0, 1) := by decide +kernel
theorem dX12_capital_26 : decode cX12_capital 26 = .ok (.ior, 1) := by decide +kernel
theorem dX12_capital_27 : decode cX12_capital 27 = .ok (.putfield 69, 3) := by decide +kernel
theorem dX12_capital_30 : decode cX12_capital 30 = .ok (.aload_n 0, 1) := by decide +kernel
theorem dX12_capital_31 : decode cX12_capital 31 = .ok (.dup, 1) := by decide +kernel
theorem dX12_capital_32 : decode cX12_capital 32 = .ok (.getfield 63, 3) := by decide +kernel
theorem dX12_capital_35 : decode cX12_capital 35 = .ok (.aload_n 0, 1) := by decide +kernel
theorem dX12_capital_36 : decode cX12_capital 36 = .ok (.getfield 69, 3) := by decide +kernel
theorem dX12_capital_39 : decode cX12_capital 39 = .ok (.ifCond .eq 7, 3) := by decide +kernel
theorem dX12_capital_42 : decode cX12_capital 42 = .ok (.iconst 0, 1) := by decide +kernel
theorem dX12_capital_43 : decode cX12_capital 43 = .ok (.goto 4, 3) := by decide +kernel
theorem dX12_capital_46 : decode cX12_capital 46 = .ok (.iconst 1, 1) := by decide +kernel
theorem dX12_capital_47 : decode cX12_capital 47 = .ok (.iadd, 1) := by decide +kernel
theorem dX12_capital_48 : decode cX12_capital 48 = .ok (.putfield 63, 3) := by decide +kernel
theorem dX12_capital_51 : decode cX12_capital 51 = .ok (.iload_n 1, 1) := by decide +kernel
theorem dX12_capital_52 : decode cX12_capital 52 = .ok (.ireturn, 1) := by decide +kernel
theorem dX12_pick_0 : decode cX12_pick 0 = .ok (.iload_n 0, 1) := by decide +kernel
theorem dX12_pick_1 : decode cX12_pick 1 = .ok (.tableswitch 61 0 6 #[43, 45, 47, 49, 52, 55, 58], 43) := by decide +kernel
theorem dX12_pick_44 : decode cX12_pick 44 = .ok (.iload_n 1, 1) := by decide +kernel
theorem dX12_pick_45 : decode cX12_pick 45 = .ok (.ireturn, 1) := by decide +kernel
theorem dX12_pick_46 : decode cX12_pick 46 = .ok (.iload_n 2, 1) := by decide +kernel
theorem dX12_pick_47 : decode cX12_pick 47 = .ok (.ireturn, 1) := by decide +kernel
theorem dX12_pick_48 : decode cX12_pick 48 = .ok (.iload_n 3, 1) := by decide +kernel
theorem dX12_pick_49 : decode cX12_pick 49 = .ok (.ireturn, 1) := by decide +kernel
theorem dX12_pick_50 : decode cX12_pick 50 = .ok (.iload 4, 2) := by decide +kernel
theorem dX12_pick_52 : decode cX12_pick 52 = .ok (.ireturn, 1) := by decide +kernel
theorem dX12_pick_53 : decode cX12_pick 53 = .ok (.iload 5, 2) := by decide +kernel
theorem dX12_pick_55 : decode cX12_pick 55 = .ok (.ireturn, 1) := by decide +kernel
theorem dX12_pick_56 : decode cX12_pick 56 = .ok (.iload 6, 2) := by decide +kernel
theorem dX12_pick_58 : decode cX12_pick 58 = .ok (.ireturn, 1) := by decide +kernel
theorem dX12_pick_59 : decode cX12_pick 59 = .ok (.iload 7, 2) := by decide +kernel
theorem dX12_pick_61 : decode cX12_pick 61 = .ok (.ireturn, 1) := by decide +kernel
theorem dX12_pick_62 : decode cX12_pick 62 = .ok (.iconst 0, 1) := by decide +kernel
theorem dX12_pick_63 : decode cX12_pick 63 = .ok (.ireturn, 1) := by decide +kernel
theorem dX12_spelled_0 : decode cX12_spelled 0 = .ok (.iload_n 0, 1) := by decide +kernel
theorem dX12_spelled_1 : decode cX12_spelled 1 = .ok (.tableswitch 182 0 7 #[47, 66, 82, 99, 115, 131, 147, 165], 47) := by decide +kernel
theorem dX12_spelled_48 : decode cX12_spelled 48 = .ok (.iload_n 1, 1) := by decide +kernel
theorem dX12_spelled_49 : decode cX12_spelled 49 = .ok (.bipush 115, 2) := by decide +kernel
theorem dX12_spelled_51 : decode cX12_spelled 51 = .ok (.bipush 116, 2) := by decide +kernel
theorem dX12_spelled_53 : decode cX12_spelled 53 = .ok (.bipush 97, 2) := by decide +kernel
theorem dX12_spelled_55 : decode cX12_spelled 55 = .ok (.bipush 116, 2) := by decide +kernel
theorem dX12_spelled_57 : decode cX12_spelled 57 = .ok (.bipush 105, 2) := by decide +kernel
theorem dX12_spelled_59 : decode cX12_spelled 59 = .ok (.bipush 111, 2) := by decide +kernel
theorem dX12_spelled_61 : decode cX12_spelled 61 = .ok (.bipush 110, 2) := by decide +kernel
theorem dX12_spelled_63 : decode cX12_spelled 63 = .ok (.invokestatic 236, 3) := by decide +kernel
theorem dX12_spelled_66 : decode cX12_spelled 66 = .ok (.ireturn, 1) := by decide +kernel
theorem dX12_spelled_67 : decode cX12_spelled 67 = .ok (.iload_n 1, 1) := by decide +kernel
theorem dX12_spelled_68 : decode cX12_spelled 68 = .ok (.bipush 109, 2) := by decide +kernel
theorem dX12_spelled_70 : decode cX12_spelled 70 = .ok (.bipush 111, 2) := by decide +kernel
theorem dX12_spelled_72 : decode cX12_spelled 72 = .ok (.bipush 118, 2) := by decide +kernel
theorem dX12_spelled_74 : decode cX12_spelled 74 = .ok (.bipush 101, 2) := by decide +kernel
theorem dX12_spelled_76 : decode cX12_spelled 76 = .ok (.iconst 0, 1) := by decide +kernel
theorem dX12_spelled_77 : decode cX12_spelled 77 = .ok (.iconst 0, 1) := by decide +kernel
theorem dX12_spelled_78 : decode cX12_spelled 78 = .ok (.iconst 0, 1) := by decide +kernel
theorem dX12_spelled_79 : decode cX12_spelled 79 = .ok (.invokestatic 236, 3) := by decide +kernel
theorem dX12_spelled_82 : decode cX12_spelled 82 = .ok (.ireturn, 1) := by decide +kernel
theorem dX12_spelled_83 : decode cX12_spelled 83 = .ok (.iload_n 1, 1) := by decide +kernel
theorem dX12_spelled_84 : decode cX12_spelled 84 = .ok (.bipush 112, 2) := by decide +kernel
theorem dX12_spelled_86 : decode cX12_spelled 86 = .ok (.bipush 111, 2) := by decide +kernel
theorem dX12_spelled_88 : decode cX12_spelled 88 = .ok (.bipush 119, 2) := by decide +kernel
theorem dX12_spelled_90 : decode cX12_spelled 90 = .ok (.bipush 101, 2) := by decide +kernel
theorem dX12_spelled_92 : decode cX12_spelled 92 = .ok (.bipush 114, 2) := by decide +kernel
theorem dX12_spelled_94 : decode cX12_spelled 94 = .ok (.iconst 0, 1) := by decide +kernel
theorem dX12_spelled_95 : decode cX12_spelled 95 = .ok (.iconst 0, 1) := by decide +kernel
theorem dX12_spelled_96 : decode cX12_spelled 96 = .ok (.invokestatic 236, 3) := by decide +kernel
theorem dX12_spelled_99 : decode cX12_spelled 99 = .ok (.ireturn, 1) := by decide +kernel
theorem dX12_spelled_100 : decode cX12_spelled 100 = .ok (.iload_n 1, 1) := by decide +kernel
theorem dX12_spelled_101 : decode cX12_spelled 101 = .ok (.bipush 116, 2) := by decide +kernel
theorem dX12_spelled_103 : decode cX12_spelled 103 = .ok (.bipush 117, 2) := by decide +kernel
theorem dX12_spelled_105 : decode cX12_spelled 105 = .ok (.bipush 110, 2) := by decide +kernel
theorem dX12_spelled_107 : decode cX12_spelled 107 = .ok (.bipush 101, 2) := by decide +kernel
theorem dX12_spelled_109 : decode cX12_spelled 109 = .ok (.iconst 0, 1) := by decide +kernel
theorem dX12_spelled_110 : decode cX12_spelled 110 = .ok (.iconst 0, 1) := by decide +kernel
theorem dX12_spelled_111 : decode cX12_spelled 111 = .ok (.iconst 0, 1) := by decide +kernel
theorem dX12_spelled_112 : decode cX12_spelled 112 = .ok (.invokestatic 236, 3) := by decide +kernel
theorem dX12_spelled_115 : decode cX12_spelled 115 = .ok (.ireturn, 1) := by decide +kernel
theorem dX12_spelled_116 : decode cX12_spelled 116 = .ok (.iload_n 1, 1) := by decide +kernel
theorem dX12_spelled_117 : decode cX12_spelled 117 = .ok (.bipush 99, 2) := by decide +kernel
theorem dX12_spelled_119 : decode cX12_spelled 119 = .ok (.bipush 97, 2) := by decide +kernel
theorem dX12_spelled_121 : decode cX12_spelled 121 = .ok (.bipush 108, 2) := by decide +kernel
theorem dX12_spelled_123 : decode cX12_spelled 123 = .ok (.bipush 108, 2) := by decide +kernel
theorem dX12_spelled_125 : decode cX12_spelled 125 = .ok (.iconst 0, 1) := by decide +kernel
theorem dX12_spelled_126 : decode cX12_spelled 126 = .ok (.iconst 0, 1) := by decide +kernel
theorem dX12_spelled_127 : decode cX12_spelled 127 = .ok (.iconst 0, 1) := by decide +kernel
theorem dX12_spelled_128 : decode cX12_spelled 128 = .ok (.invokestatic 236, 3) := by decide +kernel
theorem dX12_spelled_131 : decode cX12_spelled 131 = .ok (.ireturn, 1) := by decide +kernel
theorem dX12_spelled_132 : decode cX12_spelled 132 = .ok (.iload_n 1, 1) := by decide +kernel
theorem dX12_spelled_133 : decode cX12_spelled 133 = .ok (.bipush 111, 2) := by decide +kernel
theorem dX12_spelled_135 : decode cX12_spelled 135 = .ok (.bipush 118, 2) := by decide +kernel
theorem dX12_spelled_137 : decode cX12_spelled 137 = .ok (.bipush 101, 2) := by decide +kernel
theorem dX12_spelled_139 : decode cX12_spelled 139 = .ok (.bipush 114, 2) := by decide +kernel
theorem dX12_spelled_141 : decode cX12_spelled 141 = .ok (.iconst 0, 1) := by decide +kernel
theorem dX12_spelled_142 : decode cX12_spelled 142 = .ok (.iconst 0, 1) := by decide +kernel
theorem dX12_spelled_143 : decode cX12_spelled 143 = .ok (.iconst 0, 1) := by decide +kernel
theorem dX12_spelled_144 : decode cX12_spelled 144 = .ok (.invokestatic 236, 3) := by decide +kernel
theorem dX12_spelled_147 : decode cX12_spelled 147 = .ok (.ireturn, 1) := by decide +kernel
theorem dX12_spelled_148 : decode cX12_spelled 148 = .ok (.iload_n 1, 1) := by decide +kernel
theorem dX12_spelled_149 : decode cX12_spelled 149 = .ok (.bipush 99, 2) := by decide +kernel
theorem dX12_spelled_151 : decode cX12_spelled 151 = .ok (.bipush 97, 2) := by decide +kernel
theorem dX12_spelled_153 : decode cX12_spelled 153 = .ok (.bipush 110, 2) := by decide +kernel
theorem dX12_spelled_155 : decode cX12_spelled 155 = .ok (.bipush 99, 2) := by decide +kernel
theorem dX12_spelled_157 : decode cX12_spelled 157 = .ok (.bipush 101, 2) := by decide +kernel
theorem dX12_spelled_159 : decode cX12_spelled 159 = .ok (.bipush 108, 2) := by decide +kernel
theorem dX12_spelled_161 : decode cX12_spelled 161 = .ok (.iconst 0, 1) := by decide +kernel
theorem dX12_spelled_162 : decode cX12_spelled 162 = .ok (.invokestatic 236, 3) := by decide +kernel
theorem dX12_spelled_165 : decode cX12_spelled 165 = .ok (.ireturn, 1) := by decide +kernel
theorem dX12_spelled_166 : decode cX12_spelled 166 = .ok (.iload_n 1, 1) := by decide +kernel
theorem dX12_spelled_167 : decode cX12_spelled 167 = .ok (.bipush 108, 2) := by decide +kernel
theorem dX12_spelled_169 : decode cX12_spelled 169 = .ok (.bipush 105, 2) := by decide +kernel
theorem dX12_spelled_171 : decode cX12_spelled 171 = .ok (.bipush 109, 2) := by decide +kernel
theorem dX12_spelled_173 : decode cX12_spelled 173 = .ok (.bipush 105, 2) := by decide +kernel
theorem dX12_spelled_175 : decode cX12_spelled 175 = .ok (.bipush 116, 2) := by decide +kernel
theorem dX12_spelled_177 : decode cX12_spelled 177 = .ok (.iconst 0, 1) := by decide +kernel
theorem dX12_spelled_178 : decode cX12_spelled 178 = .ok (.iconst 0, 1) := by decide +kernel
theorem dX12_spelled_179 : decode cX12_spelled 179 = .ok (.invokestatic 236, 3) := by decide +kernel
theorem dX12_spelled_182 : decode cX12_spelled 182 = .ok (.ireturn, 1) := by decide +kernel
theorem dX12_spelled_183 : decode cX12_spelled 183 = .ok (.iload_n 1, 1) := by decide +kernel
theorem dX12_spelled_184 : decode cX12_spelled 184 = .ok (.bipush 119, 2) := by decide +kernel
theorem dX12_spelled_186 : decode cX12_spelled 186 = .ok (.bipush 97, 2) := by decide +kernel
theorem dX12_spelled_188 : decode cX12_spelled 188 = .ok (.bipush 105, 2) := by decide +kernel
theorem dX12_spelled_190 : decode cX12_spelled 190 = .ok (.bipush 116, 2) := by decide +kernel
theorem dX12_spelled_192 : decode cX12_spelled 192 = .ok (.iconst 0, 1) := by decide +kernel
theorem dX12_spelled_193 : decode cX12_spelled 193 = .ok (.iconst 0, 1) := by decide +kernel
theorem dX12_spelled_194 : decode cX12_spelled 194 = .ok (.iconst 0, 1) := by decide +kernel
theorem dX12_spelled_195 : decode cX12_spelled 195 = .ok (.invokestatic 236, 3) := by decide +kernel
theorem dX12_spelled_198 : decode cX12_spelled 198 = .ok (.ireturn, 1) := by decide +kernel
theorem dX12_word_0 : decode cX12_word 0 = .ok (.iconst 0, 1) := by decide +kernel
theorem dX12_word_1 : decode cX12_word 1 = .ok (.istore_n 1, 1) := by decide +kernel
theorem dX12_word_2 : decode cX12_word 2 = .ok (.iconst 0, 1) := by decide +kernel
theorem dX12_word_3 : decode cX12_word 3 = .ok (.istore_n 2, 1) := by decide +kernel
theorem dX12_word_4 : decode cX12_word 4 = .ok (.iload_n 2, 1) := by decide +kernel
theorem dX12_word_5 : decode cX12_word 5 = .ok (.bipush 9, 2) := by decide +kernel
theorem dX12_word_7 : decode cX12_word 7 = .ok (.if_icmp .ge 88, 3) := by decide +kernel
theorem dX12_word_10 : decode cX12_word 10 = .ok (.iconst 0, 1) := by decide +kernel
theorem dX12_word_11 : decode cX12_word 11 = .ok (.istore_n 3, 1) := by decide +kernel
theorem dX12_word_12 : decode cX12_word 12 = .ok (.iload_n 2, 1) := by decide +kernel
theorem dX12_word_13 : decode cX12_word 13 = .ok (.iload_n 3, 1) := by decide +kernel
theorem dX12_word_14 : decode cX12_word 14 = .ok (.invokestatic 240, 3) := by decide +kernel
theorem dX12_word_17 : decode cX12_word 17 = .ok (.ifCond .le 41, 3) := by decide +kernel
theorem dX12_word_20 : decode cX12_word 20 = .ok (.aload_n 0, 1) := by decide +kernel
theorem dX12_word_21 : decode cX12_word 21 = .ok (.getfield 63, 3) := by decide +kernel
theorem dX12_word_24 : decode cX12_word 24 = .ok (.iload_n 3, 1) := by decide +kernel
theorem dX12_word_25 : decode cX12_word 25 = .ok (.iadd, 1) := by decide +kernel
theorem dX12_word_26 : decode cX12_word 26 = .ok (.aload_n 0, 1) := by decide +kernel
theorem dX12_word_27 : decode cX12_word 27 = .ok (.getfield 60, 3) := by decide +kernel
theorem dX12_word_30 : decode cX12_word 30 = .ok (.if_icmp .ge 28, 3) := by decide +kernel
theorem dX12_word_33 : decode cX12_word 33 = .ok (.aload_n 0, 1) := by decide +kernel
theorem dX12_word_34 : decode cX12_word 34 = .ok (.getfield 45, 3) := by decide +kernel
theorem dX12_word_37 : decode cX12_word 37 = .ok (.aload_n 0, 1) := by decide +kernel
theorem dX12_word_38 : decode cX12_word 38 = .ok (.getfield 63, 3) := by decide +kernel
theorem dX12_word_41 : decode cX12_word 41 = .ok (.iload_n 3, 1) := by decide +kernel
theorem dX12_word_42 : decode cX12_word 42 = .ok (.iadd, 1) := by decide +kernel
theorem dX12_word_43 : decode cX12_word 43 = .ok (.iaload, 1) := by decide +kernel
theorem dX12_word_44 : decode cX12_word 44 = .ok (.iload_n 2, 1) := by decide +kernel
theorem dX12_word_45 : decode cX12_word 45 = .ok (.iload_n 3, 1) := by decide +kernel
theorem dX12_word_46 : decode cX12_word 46 = .ok (.invokestatic 240, 3) := by decide +kernel
theorem dX12_word_49 : decode cX12_word 49 = .ok (.if_icmp .ne 9, 3) := by decide +kernel
theorem dX12_word_52 : decode cX12_word 52 = .ok (.iinc 3 1, 3) := by decide +kernel
theorem dX12_word_55 : decode cX12_word 55 = .ok (.goto (-43), 3) := by decide +kernel
theorem dX12_word_58 : decode cX12_word 58 = .ok (.iload_n 2, 1) := by decide +kernel
theorem dX12_word_59 : decode cX12_word 59 = .ok (.iload_n 3, 1) := by decide +kernel
theorem dX12_word_60 : decode cX12_word 60 = .ok (.invokestatic 240, 3) := by decide +kernel
theorem dX12_word_63 : decode cX12_word 63 = .ok (.ifCond .ne 15, 3) := by decide +kernel
theorem dX12_word_66 : decode cX12_word 66 = .ok (.aload_n 0, 1) := by decide +kernel
theorem dX12_word_67 : decode cX12_word 67 = .ok (.dup, 1) := by decide +kernel
theorem dX12_word_68 : decode cX12_word 68 = .ok (.getfield 63, 3) := by decide +kernel
theorem dX12_word_71 : decode cX12_word 71 = .ok (.iload_n 3, 1) := by decide +kernel
theorem dX12_word_72 : decode cX12_word 72 = .ok (.iadd, 1) := by decide +kernel
theorem dX12_word_73 : decode cX12_word 73 = .ok (.putfield 63, 3) := by decide +kernel
theorem dX12_word_76 : decode cX12_word 76 = .ok (.iload_n 2, 1) := by decide +kernel
theorem dX12_word_77 : decode cX12_word 77 = .ok (.ireturn, 1) := by decide +kernel
theorem dX12_word_78 : decode cX12_word 78 = .ok (.iload_n 3, 1) := by decide +kernel
theorem dX12_word_79 : decode cX12_word 79 = .ok (.iload_n 1, 1) := by decide +kernel
theorem dX12_word_80 : decode cX12_word 80 = .ok (.if_icmp .le 7, 3) := by decide +kernel
theorem dX12_word_83 : decode cX12_word 83 = .ok (.iload_n 3, 1) := by decide +kernel
theorem dX12_word_84 : decode cX12_word 84 = .ok (.goto 4, 3) := by decide +kernel
theorem dX12_word_87 : decode cX12_word 87 = .ok (.iload_n 1, 1) := by decide +kernel
theorem dX12_word_88 : decode cX12_word 88 = .ok (.istore_n 1, 1) := by decide +kernel
theorem dX12_word_89 : decode cX12_word 89 = .ok (.iinc 2 1, 3) := by decide +kernel
theorem dX12_word_92 : decode cX12_word 92 = .ok (.goto (-88), 3) := by decide +kernel
theorem dX12_word_95 : decode cX12_word 95 = .ok (.aload_n 0, 1) := by decide +kernel
theorem dX12_word_96 : decode cX12_word 96 = .ok (.dup, 1) := by decide +kernel
theorem dX12_word_97 : decode cX12_word 97 = .ok (.getfield 63, 3) := by decide +kernel
theorem dX12_word_100 : decode cX12_word 100 = .ok (.iload_n 1, 1) := by decide +kernel
theorem dX12_word_101 : decode cX12_word 101 = .ok (.iadd, 1) := by decide +kernel
theorem dX12_word_102 : decode cX12_word 102 = .ok (.putfield 63, 3) := by decide +kernel
theorem dX12_word_105 : decode cX12_word 105 = .ok (.aload_n 0, 1) := by decide +kernel
theorem dX12_word_106 : decode cX12_word 106 = .ok (.iconst 1, 1) := by decide +kernel
theorem dX12_word_107 : decode cX12_word 107 = .ok (.putfield 69, 3) := by decide +kernel
theorem dX12_word_110 : decode cX12_word 110 = .ok (.iconst 0, 1) := by decide +kernel
theorem dX12_word_111 : decode cX12_word 111 = .ok (.ireturn, 1) := by decide +kernel
theorem dX12_readsStation_0 : decode cX12_readsStation 0 = .ok (.aload_n 0, 1) := by decide +kernel
theorem dX12_readsStation_1 : decode cX12_readsStation 1 = .ok (.getfield 54, 3) := by decide +kernel
theorem dX12_readsStation_4 : decode cX12_readsStation 4 = .ok (.iconst 0, 1) := by decide +kernel
theorem dX12_readsStation_5 : decode cX12_readsStation 5 = .ok (.aload_n 0, 1) := by decide +kernel
theorem dX12_readsStation_6 : decode cX12_readsStation 6 = .ok (.invokevirtual 243, 3) := by decide +kernel
theorem dX12_readsStation_9 : decode cX12_readsStation 9 = .ok (.iastore, 1) := by decide +kernel
theorem dX12_readsStation_10 : decode cX12_readsStation 10 = .ok (.aload_n 0, 1) := by decide +kernel
theorem dX12_readsStation_11 : decode cX12_readsStation 11 = .ok (.getfield 54, 3) := by decide +kernel
theorem dX12_readsStation_14 : decode cX12_readsStation 14 = .ok (.iconst 1, 1) := by decide +kernel
theorem dX12_readsStation_15 : decode cX12_readsStation 15 = .ok (.aload_n 0, 1) := by decide +kernel
theorem dX12_readsStation_16 : decode cX12_readsStation 16 = .ok (.iconst 1, 1) := by decide +kernel
theorem dX12_readsStation_17 : decode cX12_readsStation 17 = .ok (.invokevirtual 246, 3) := by decide +kernel
theorem dX12_readsStation_20 : decode cX12_readsStation 20 = .ok (.iastore, 1) := by decide +kernel
theorem dX12_readsStation_21 : decode cX12_readsStation 21 = .ok (.aload_n 0, 1) := by decide +kernel
theorem dX12_readsStation_22 : decode cX12_readsStation 22 = .ok (.bipush 32, 2) := by decide +kernel
theorem dX12_readsStation_24 : decode cX12_readsStation 24 = .ok (.invokevirtual 249, 3) := by decide +kernel
theorem dX12_readsStation_27 : decode cX12_readsStation 27 = .ok (.aload_n 0, 1) := by decide +kernel
theorem dX12_readsStation_28 : decode cX12_readsStation 28 = .ok (.getfield 54, 3) := by decide +kernel
theorem dX12_readsStation_31 : decode cX12_readsStation 31 = .ok (.iconst 2, 1) := by decide +kernel
theorem dX12_readsStation_32 : decode cX12_readsStation 32 = .ok (.aload_n 0, 1) := by decide +kernel
theorem dX12_readsStation_33 : decode cX12_readsStation 33 = .ok (.iconst 2, 1) := by decide +kernel
theorem dX12_readsStation_34 : decode cX12_readsStation 34 = .ok (.invokevirtual 246, 3) := by decide +kernel
theorem dX12_readsStation_37 : decode cX12_readsStation 37 = .ok (.iastore, 1) := by decide +kernel
theorem dX12_readsStation_38 : decode cX12_readsStation 38 = .ok (.aload_n 0, 1) := by decide +kernel
theorem dX12_readsStation_39 : decode cX12_readsStation 39 = .ok (.bipush 44, 2) := by decide +kernel
theorem dX12_readsStation_41 : decode cX12_readsStation 41 = .ok (.invokevirtual 249, 3) := by decide +kernel
theorem dX12_readsStation_44 : decode cX12_readsStation 44 = .ok (.aload_n 0, 1) := by decide +kernel
theorem dX12_readsStation_45 : decode cX12_readsStation 45 = .ok (.getfield 54, 3) := by decide +kernel
theorem dX12_readsStation_48 : decode cX12_readsStation 48 = .ok (.iconst 3, 1) := by decide +kernel
theorem dX12_readsStation_49 : decode cX12_readsStation 49 = .ok (.aload_n 0, 1) := by decide +kernel
theorem dX12_readsStation_50 : decode cX12_readsStation 50 = .ok (.iconst 2, 1) := by decide +kernel
theorem dX12_readsStation_51 : decode cX12_readsStation 51 = .ok (.invokevirtual 246, 3) := by decide +kernel
theorem dX12_readsStation_54 : decode cX12_readsStation 54 = .ok (.iastore, 1) := by decide +kernel
theorem dX12_readsStation_55 : decode cX12_readsStation 55 = .ok (.aload_n 0, 1) := by decide +kernel
theorem dX12_readsStation_56 : decode cX12_readsStation 56 = .ok (.bipush 32, 2) := by decide +kernel
theorem dX12_readsStation_58 : decode cX12_readsStation 58 = .ok (.invokevirtual 249, 3) := by decide +kernel
theorem dX12_readsStation_61 : decode cX12_readsStation 61 = .ok (.aload_n 0, 1) := by decide +kernel
theorem dX12_readsStation_62 : decode cX12_readsStation 62 = .ok (.getfield 54, 3) := by decide +kernel
theorem dX12_readsStation_65 : decode cX12_readsStation 65 = .ok (.iconst 4, 1) := by decide +kernel
theorem dX12_readsStation_66 : decode cX12_readsStation 66 = .ok (.aload_n 0, 1) := by decide +kernel
theorem dX12_readsStation_67 : decode cX12_readsStation 67 = .ok (.iconst 2, 1) := by decide +kernel
theorem dX12_readsStation_68 : decode cX12_readsStation 68 = .ok (.invokevirtual 246, 3) := by decide +kernel
theorem dX12_readsStation_71 : decode cX12_readsStation 71 = .ok (.iastore, 1) := by decide +kernel
theorem dX12_readsStation_72 : decode cX12_readsStation 72 = .ok (.aload_n 0, 1) := by decide +kernel
theorem dX12_readsStation_73 : decode cX12_readsStation 73 = .ok (.bipush 32, 2) := by decide +kernel
theorem dX12_readsStation_75 : decode cX12_readsStation 75 = .ok (.invokevirtual 249, 3) := by decide +kernel
theorem dX12_readsStation_78 : decode cX12_readsStation 78 = .ok (.aload_n 0, 1) := by decide +kernel
theorem dX12_readsStation_79 : decode cX12_readsStation 79 = .ok (.getfield 54, 3) := by decide +kernel
theorem dX12_readsStation_82 : decode cX12_readsStation 82 = .ok (.iconst 5, 1) := by decide +kernel
theorem dX12_readsStation_83 : decode cX12_readsStation 83 = .ok (.aload_n 0, 1) := by decide +kernel
theorem dX12_readsStation_84 : decode cX12_readsStation 84 = .ok (.iconst 1, 1) := by decide +kernel
theorem dX12_readsStation_85 : decode cX12_readsStation 85 = .ok (.invokevirtual 246, 3) := by decide +kernel
theorem dX12_readsStation_88 : decode cX12_readsStation 88 = .ok (.iastore, 1) := by decide +kernel
theorem dX12_readsStation_89 : decode cX12_readsStation 89 = .ok (.return_, 1) := by decide +kernel
theorem dX12_readsPlace_0 : decode cX12_readsPlace 0 = .ok (.aload_n 0, 1) := by decide +kernel
theorem dX12_readsPlace_1 : decode cX12_readsPlace 1 = .ok (.getfield 54, 3) := by decide +kernel
theorem dX12_readsPlace_4 : decode cX12_readsPlace 4 = .ok (.iconst 0, 1) := by decide +kernel
theorem dX12_readsPlace_5 : decode cX12_readsPlace 5 = .ok (.aload_n 0, 1) := by decide +kernel
theorem dX12_readsPlace_6 : decode cX12_readsPlace 6 = .ok (.iconst 1, 1) := by decide +kernel
theorem dX12_readsPlace_7 : decode cX12_readsPlace 7 = .ok (.invokevirtual 246, 3) := by decide +kernel
theorem dX12_readsPlace_10 : decode cX12_readsPlace 10 = .ok (.iastore, 1) := by decide +kernel
theorem dX12_readsPlace_11 : decode cX12_readsPlace 11 = .ok (.aload_n 0, 1) := by decide +kernel
theorem dX12_readsPlace_12 : decode cX12_readsPlace 12 = .ok (.bipush 32, 2) := by decide +kernel
theorem dX12_readsPlace_14 : decode cX12_readsPlace 14 = .ok (.invokevirtual 249, 3) := by decide +kernel
theorem dX12_readsPlace_17 : decode cX12_readsPlace 17 = .ok (.aload_n 0, 1) := by decide +kernel
theorem dX12_readsPlace_18 : decode cX12_readsPlace 18 = .ok (.getfield 54, 3) := by decide +kernel
theorem dX12_readsPlace_21 : decode cX12_readsPlace 21 = .ok (.iconst 1, 1) := by decide +kernel
theorem dX12_readsPlace_22 : decode cX12_readsPlace 22 = .ok (.aload_n 0, 1) := by decide +kernel
theorem dX12_readsPlace_23 : decode cX12_readsPlace 23 = .ok (.iconst 2, 1) := by decide +kernel
theorem dX12_readsPlace_24 : decode cX12_readsPlace 24 = .ok (.invokevirtual 246, 3) := by decide +kernel
theorem dX12_readsPlace_27 : decode cX12_readsPlace 27 = .ok (.iastore, 1) := by decide +kernel
theorem dX12_readsPlace_28 : decode cX12_readsPlace 28 = .ok (.aload_n 0, 1) := by decide +kernel
theorem dX12_readsPlace_29 : decode cX12_readsPlace 29 = .ok (.bipush 44, 2) := by decide +kernel
theorem dX12_readsPlace_31 : decode cX12_readsPlace 31 = .ok (.invokevirtual 249, 3) := by decide +kernel
theorem dX12_readsPlace_34 : decode cX12_readsPlace 34 = .ok (.aload_n 0, 1) := by decide +kernel
theorem dX12_readsPlace_35 : decode cX12_readsPlace 35 = .ok (.getfield 54, 3) := by decide +kernel
theorem dX12_readsPlace_38 : decode cX12_readsPlace 38 = .ok (.iconst 2, 1) := by decide +kernel
theorem dX12_readsPlace_39 : decode cX12_readsPlace 39 = .ok (.aload_n 0, 1) := by decide +kernel
theorem dX12_readsPlace_40 : decode cX12_readsPlace 40 = .ok (.iconst 2, 1) := by decide +kernel
theorem dX12_readsPlace_41 : decode cX12_readsPlace 41 = .ok (.invokevirtual 246, 3) := by decide +kernel
theorem dX12_readsPlace_44 : decode cX12_readsPlace 44 = .ok (.iastore, 1) := by decide +kernel
theorem dX12_readsPlace_45 : decode cX12_readsPlace 45 = .ok (.return_, 1) := by decide +kernel
theorem dX12_command_0 : decode cX12_command 0 = .ok (.aload_n 0, 1) := by decide +kernel
theorem dX12_command_1 : decode cX12_command 1 = .ok (.invokevirtual 252, 3) := by decide +kernel
theorem dX12_command_4 : decode cX12_command 4 = .ok (.istore_n 1, 1) := by decide +kernel
theorem dX12_command_5 : decode cX12_command 5 = .ok (.aload_n 0, 1) := by decide +kernel
theorem dX12_command_6 : decode cX12_command 6 = .ok (.getfield 54, 3) := by decide +kernel
theorem dX12_command_9 : decode cX12_command 9 = .ok (.iconst 0, 1) := by decide +kernel
theorem dX12_command_10 : decode cX12_command 10 = .ok (.iconst 1, 1) := by decide +kernel
theorem dX12_command_11 : decode cX12_command 11 = .ok (.iastore, 1) := by decide +kernel
theorem dX12_command_12 : decode cX12_command 12 = .ok (.iload_n 1, 1) := by decide +kernel
theorem dX12_command_13 : decode cX12_command 13 = .ok (.bipush 8, 2) := by decide +kernel
theorem dX12_command_15 : decode cX12_command 15 = .ok (.if_icmp .lt 12, 3) := by decide +kernel
theorem dX12_command_18 : decode cX12_command 18 = .ok (.aload_n 0, 1) := by decide +kernel
theorem dX12_command_19 : decode cX12_command 19 = .ok (.invokevirtual 233, 3) := by decide +kernel
theorem dX12_command_22 : decode cX12_command 22 = .ok (.bipush 32, 2) := by decide +kernel
theorem dX12_command_24 : decode cX12_command 24 = .ok (.if_icmp .ne 9, 3) := by decide +kernel
theorem dX12_command_27 : decode cX12_command 27 = .ok (.aload_n 0, 1) := by decide +kernel
theorem dX12_command_28 : decode cX12_command 28 = .ok (.bipush 32, 2) := by decide +kernel
theorem dX12_command_30 : decode cX12_command 30 = .ok (.invokevirtual 249, 3) := by decide +kernel
theorem dX12_command_33 : decode cX12_command 33 = .ok (.iload_n 1, 1) := by decide +kernel
theorem dX12_command_34 : decode cX12_command 34 = .ok (.bipush 8, 2) := by decide +kernel
theorem dX12_command_36 : decode cX12_command 36 = .ok (.if_icmp .ne 30, 3) := by decide +kernel
theorem dX12_command_39 : decode cX12_command 39 = .ok (.aload_n 0, 1) := by decide +kernel
theorem dX12_command_40 : decode cX12_command 40 = .ok (.getfield 63, 3) := by decide +kernel
theorem dX12_command_43 : decode cX12_command 43 = .ok (.ifCond .eq 19, 3) := by decide +kernel
theorem dX12_command_46 : decode cX12_command 46 = .ok (.aload_n 0, 1) := by decide +kernel
theorem dX12_command_47 : decode cX12_command 47 = .ok (.getfield 45, 3) := by decide +kernel
theorem dX12_command_50 : decode cX12_command 50 = .ok (.aload_n 0, 1) := by decide +kernel
theorem dX12_command_51 : decode cX12_command 51 = .ok (.getfield 63, 3) := by decide +kernel
theorem dX12_command_54 : decode cX12_command 54 = .ok (.iconst 1, 1) := by decide +kernel
theorem dX12_command_55 : decode cX12_command 55 = .ok (.isub, 1) := by decide +kernel
theorem dX12_command_56 : decode cX12_command 56 = .ok (.iaload, 1) := by decide +kernel
theorem dX12_command_57 : decode cX12_command 57 = .ok (.bipush 32, 2) := by decide +kernel
theorem dX12_command_59 : decode cX12_command 59 = .ok (.if_icmp .eq 7, 3) := by decide +kernel
theorem dX12_command_62 : decode cX12_command 62 = .ok (.iconst 1, 1) := by decide +kernel
theorem dX12_command_63 : decode cX12_command 63 = .ok (.goto 4, 3) := by decide +kernel
theorem dX12_command_66 : decode cX12_command 66 = .ok (.iconst 0, 1) := by decide +kernel
theorem dX12_command_67 : decode cX12_command 67 = .ok (.istore_n 2, 1) := by decide +kernel
theorem dX12_command_68 : decode cX12_command 68 = .ok (.iload_n 1, 1) := by decide +kernel
theorem dX12_command_69 : decode cX12_command 69 = .ok (.ifCond .ne 7, 3) := by decide +kernel
theorem dX12_command_72 : decode cX12_command 72 = .ok (.aload_n 0, 1) := by decide +kernel
theorem dX12_command_73 : decode cX12_command 73 = .ok (.invokevirtual 255, 3) := by decide +kernel
theorem dX12_command_76 : decode cX12_command 76 = .ok (.iload_n 1, 1) := by decide +kernel
theorem dX12_command_77 : decode cX12_command 77 = .ok (.iconst 1, 1) := by decide +kernel
theorem dX12_command_78 : decode cX12_command 78 = .ok (.if_icmp .ne 7, 3) := by decide +kernel
theorem dX12_command_81 : decode cX12_command 81 = .ok (.aload_n 0, 1) := by decide +kernel
theorem dX12_command_82 : decode cX12_command 82 = .ok (.invokevirtual 258, 3) := by decide +kernel
theorem dX12_command_85 : decode cX12_command 85 = .ok (.iload_n 1, 1) := by decide +kernel
theorem dX12_command_86 : decode cX12_command 86 = .ok (.iconst 1, 1) := by decide +kernel
theorem dX12_command_87 : decode cX12_command 87 = .ok (.if_icmp .le 20, 3) := by decide +kernel
theorem dX12_command_90 : decode cX12_command 90 = .ok (.iload_n 1, 1) := by decide +kernel
theorem dX12_command_91 : decode cX12_command 91 = .ok (.bipush 7, 2) := by decide +kernel
theorem dX12_command_93 : decode cX12_command 93 = .ok (.if_icmp .ge 14, 3) := by decide +kernel
theorem dX12_command_96 : decode cX12_command 96 = .ok (.aload_n 0, 1) := by decide +kernel
theorem dX12_command_97 : decode cX12_command 97 = .ok (.getfield 54, 3) := by decide +kernel
theorem dX12_command_100 : decode cX12_command 100 = .ok (.iconst 0, 1) := by decide +kernel
theorem dX12_command_101 : decode cX12_command 101 = .ok (.aload_n 0, 1) := by decide +kernel
theorem dX12_command_102 : decode cX12_command 102 = .ok (.iconst 1, 1) := by decide +kernel
theorem dX12_command_103 : decode cX12_command 103 = .ok (.invokevirtual 246, 3) := by decide +kernel
theorem dX12_command_106 : decode cX12_command 106 = .ok (.iastore, 1) := by decide +kernel
theorem dX12_command_107 : decode cX12_command 107 = .ok (.iload_n 1, 1) := by decide +kernel
theorem dX12_command_108 : decode cX12_command 108 = .ok (.bipush 7, 2) := by decide +kernel
theorem dX12_command_110 : decode cX12_command 110 = .ok (.if_icmp .eq 13, 3) := by decide +kernel
theorem dX12_command_113 : decode cX12_command 113 = .ok (.iload_n 1, 1) := by decide +kernel
theorem dX12_command_114 : decode cX12_command 114 = .ok (.bipush 8, 2) := by decide +kernel
theorem dX12_command_116 : decode cX12_command 116 = .ok (.if_icmp .ne 18, 3) := by decide +kernel
theorem dX12_command_119 : decode cX12_command 119 = .ok (.iload_n 2, 1) := by decide +kernel
theorem dX12_command_120 : decode cX12_command 120 = .ok (.ifCond .ne 14, 3) := by decide +kernel
theorem dX12_command_123 : decode cX12_command 123 = .ok (.aload_n 0, 1) := by decide +kernel
theorem dX12_command_124 : decode cX12_command 124 = .ok (.getfield 54, 3) := by decide +kernel
theorem dX12_command_127 : decode cX12_command 127 = .ok (.iconst 0, 1) := by decide +kernel
theorem dX12_command_128 : decode cX12_command 128 = .ok (.aload_n 0, 1) := by decide +kernel
theorem dX12_command_129 : decode cX12_command 129 = .ok (.iconst 2, 1) := by decide +kernel
theorem dX12_command_130 : decode cX12_command 130 = .ok (.invokevirtual 246, 3) := by decide +kernel
theorem dX12_command_133 : decode cX12_command 133 = .ok (.iastore, 1) := by decide +kernel
theorem dX12_command_134 : decode cX12_command 134 = .ok (.iload_n 1, 1) := by decide +kernel
theorem dX12_command_135 : decode cX12_command 135 = .ok (.iconst 2, 1) := by decide +kernel
theorem dX12_command_136 : decode cX12_command 136 = .ok (.if_icmp .eq 8, 3) := by decide +kernel
theorem dX12_command_139 : decode cX12_command 139 = .ok (.iload_n 1, 1) := by decide +kernel
theorem dX12_command_140 : decode cX12_command 140 = .ok (.iconst 3, 1) := by decide +kernel
theorem dX12_command_141 : decode cX12_command 141 = .ok (.if_icmp .ne 29, 3) := by decide +kernel
theorem dX12_command_144 : decode cX12_command 144 = .ok (.aload_n 0, 1) := by decide +kernel
theorem dX12_command_145 : decode cX12_command 145 = .ok (.bipush 61, 2) := by decide +kernel
theorem dX12_command_147 : decode cX12_command 147 = .ok (.invokevirtual 249, 3) := by decide +kernel
theorem dX12_command_150 : decode cX12_command 150 = .ok (.aload_n 0, 1) := by decide +kernel
theorem dX12_command_151 : decode cX12_command 151 = .ok (.getfield 54, 3) := by decide +kernel
theorem dX12_command_154 : decode cX12_command 154 = .ok (.iconst 1, 1) := by decide +kernel
theorem dX12_command_155 : decode cX12_command 155 = .ok (.aload_n 0, 1) := by decide +kernel
theorem dX12_command_156 : decode cX12_command 156 = .ok (.iload_n 1, 1) := by decide +kernel
theorem dX12_command_157 : decode cX12_command 157 = .ok (.iconst 2, 1) := by decide +kernel
theorem dX12_command_158 : decode cX12_command 158 = .ok (.if_icmp .ne 7, 3) := by decide +kernel
theorem dX12_command_161 : decode cX12_command 161 = .ok (.iconst 2, 1) := by decide +kernel
theorem dX12_command_162 : decode cX12_command 162 = .ok (.goto 4, 3) := by decide +kernel
theorem dX12_command_165 : decode cX12_command 165 = .ok (.iconst 1, 1) := by decide +kernel
theorem dX12_command_166 : decode cX12_command 166 = .ok (.invokevirtual 246, 3) := by decide +kernel
theorem dX12_command_169 : decode cX12_command 169 = .ok (.iastore, 1) := by decide +kernel
theorem dX12_command_170 : decode cX12_command 170 = .ok (.aload_n 0, 1) := by decide +kernel
theorem dX12_command_171 : decode cX12_command 171 = .ok (.getfield 69, 3) := by decide +kernel
theorem dX12_command_174 : decode cX12_command 174 = .ok (.ifCond .eq 4, 3) := by decide +kernel
theorem dX12_command_177 : decode cX12_command 177 = .ok (.return_, 1) := by decide +kernel
theorem dX12_command_178 : decode cX12_command 178 = .ok (.aload_n 0, 1) := by decide +kernel
theorem dX12_command_179 : decode cX12_command 179 = .ok (.getfield 48, 3) := by decide +kernel
theorem dX12_command_182 : decode cX12_command 182 = .ok (.aload_n 0, 1) := by decide +kernel
theorem dX12_command_183 : decode cX12_command 183 = .ok (.getfield 66, 3) := by decide +kernel
theorem dX12_command_186 : decode cX12_command 186 = .ok (.iload_n 1, 1) := by decide +kernel
theorem dX12_command_187 : decode cX12_command 187 = .ok (.iastore, 1) := by decide +kernel
theorem dX12_command_188 : decode cX12_command 188 = .ok (.iconst 0, 1) := by decide +kernel
theorem dX12_command_189 : decode cX12_command 189 = .ok (.istore_n 3, 1) := by decide +kernel
theorem dX12_command_190 : decode cX12_command 190 = .ok (.iload_n 3, 1) := by decide +kernel
theorem dX12_command_191 : decode cX12_command 191 = .ok (.bipush 6, 2) := by decide +kernel
theorem dX12_command_193 : decode cX12_command 193 = .ok (.if_icmp .ge 29, 3) := by decide +kernel
theorem dX12_command_196 : decode cX12_command 196 = .ok (.aload_n 0, 1) := by decide +kernel
theorem dX12_command_197 : decode cX12_command 197 = .ok (.getfield 51, 3) := by decide +kernel
theorem dX12_command_200 : decode cX12_command 200 = .ok (.bipush 6, 2) := by decide +kernel
theorem dX12_command_202 : decode cX12_command 202 = .ok (.aload_n 0, 1) := by decide +kernel
theorem dX12_command_203 : decode cX12_command 203 = .ok (.getfield 66, 3) := by decide +kernel
theorem dX12_command_206 : decode cX12_command 206 = .ok (.imul, 1) := by decide +kernel
theorem dX12_command_207 : decode cX12_command 207 = .ok (.iload_n 3, 1) := by decide +kernel
theorem dX12_command_208 : decode cX12_command 208 = .ok (.iadd, 1) := by decide +kernel
theorem dX12_command_209 : decode cX12_command 209 = .ok (.aload_n 0, 1) := by decide +kernel
theorem dX12_command_210 : decode cX12_command 210 = .ok (.getfield 54, 3) := by decide +kernel
theorem dX12_command_213 : decode cX12_command 213 = .ok (.iload_n 3, 1) := by decide +kernel
theorem dX12_command_214 : decode cX12_command 214 = .ok (.iaload, 1) := by decide +kernel
theorem dX12_command_215 : decode cX12_command 215 = .ok (.iastore, 1) := by decide +kernel
theorem dX12_command_216 : decode cX12_command 216 = .ok (.iinc 3 1, 3) := by decide +kernel
theorem dX12_command_219 : decode cX12_command 219 = .ok (.goto (-29), 3) := by decide +kernel
theorem dX12_command_222 : decode cX12_command 222 = .ok (.aload_n 0, 1) := by decide +kernel
theorem dX12_command_223 : decode cX12_command 223 = .ok (.dup, 1) := by decide +kernel
theorem dX12_command_224 : decode cX12_command 224 = .ok (.getfield 66, 3) := by decide +kernel
theorem dX12_command_227 : decode cX12_command 227 = .ok (.iconst 1, 1) := by decide +kernel
theorem dX12_command_228 : decode cX12_command 228 = .ok (.iadd, 1) := by decide +kernel
theorem dX12_command_229 : decode cX12_command 229 = .ok (.putfield 66, 3) := by decide +kernel
theorem dX12_command_232 : decode cX12_command 232 = .ok (.return_, 1) := by decide +kernel
theorem dX12_parse_0 : decode cX12_parse 0 = .ok (.aload_n 0, 1) := by decide +kernel
theorem dX12_parse_1 : decode cX12_parse 1 = .ok (.aload_n 0, 1) := by decide +kernel
theorem dX12_parse_2 : decode cX12_parse 2 = .ok (.getfield 57, 3) := by decide +kernel
theorem dX12_parse_5 : decode cX12_parse 5 = .ok (.putfield 60, 3) := by decide +kernel
theorem dX12_parse_8 : decode cX12_parse 8 = .ok (.aload_n 0, 1) := by decide +kernel
theorem dX12_parse_9 : decode cX12_parse 9 = .ok (.iconst 0, 1) := by decide +kernel
theorem dX12_parse_10 : decode cX12_parse 10 = .ok (.putfield 57, 3) := by decide +kernel
theorem dX12_parse_13 : decode cX12_parse 13 = .ok (.aload_n 0, 1) := by decide +kernel
theorem dX12_parse_14 : decode cX12_parse 14 = .ok (.iconst 0, 1) := by decide +kernel
theorem dX12_parse_15 : decode cX12_parse 15 = .ok (.putfield 63, 3) := by decide +kernel
theorem dX12_parse_18 : decode cX12_parse 18 = .ok (.aload_n 0, 1) := by decide +kernel
theorem dX12_parse_19 : decode cX12_parse 19 = .ok (.iconst 0, 1) := by decide +kernel
theorem dX12_parse_20 : decode cX12_parse 20 = .ok (.putfield 66, 3) := by decide +kernel
theorem dX12_parse_23 : decode cX12_parse 23 = .ok (.aload_n 0, 1) := by decide +kernel
theorem dX12_parse_24 : decode cX12_parse 24 = .ok (.iconst 0, 1) := by decide +kernel
theorem dX12_parse_25 : decode cX12_parse 25 = .ok (.putfield 69, 3) := by decide +kernel
theorem dX12_parse_28 : decode cX12_parse 28 = .ok (.aload_n 0, 1) := by decide +kernel
theorem dX12_parse_29 : decode cX12_parse 29 = .ok (.invokevirtual 261, 3) := by decide +kernel
theorem dX12_parse_32 : decode cX12_parse 32 = .ok (.aload_n 0, 1) := by decide +kernel
theorem dX12_parse_33 : decode cX12_parse 33 = .ok (.invokevirtual 233, 3) := by decide +kernel
theorem dX12_parse_36 : decode cX12_parse 36 = .ok (.bipush 59, 2) := by decide +kernel
theorem dX12_parse_38 : decode cX12_parse 38 = .ok (.if_icmp .ne 20, 3) := by decide +kernel
theorem dX12_parse_41 : decode cX12_parse 41 = .ok (.aload_n 0, 1) := by decide +kernel
theorem dX12_parse_42 : decode cX12_parse 42 = .ok (.dup, 1) := by decide +kernel
theorem dX12_parse_43 : decode cX12_parse 43 = .ok (.getfield 63, 3) := by decide +kernel
theorem dX12_parse_46 : decode cX12_parse 46 = .ok (.iconst 1, 1) := by decide +kernel
theorem dX12_parse_47 : decode cX12_parse 47 = .ok (.iadd, 1) := by decide +kernel
theorem dX12_parse_48 : decode cX12_parse 48 = .ok (.putfield 63, 3) := by decide +kernel
theorem dX12_parse_51 : decode cX12_parse 51 = .ok (.aload_n 0, 1) := by decide +kernel
theorem dX12_parse_52 : decode cX12_parse 52 = .ok (.invokevirtual 261, 3) := by decide +kernel
theorem dX12_parse_55 : decode cX12_parse 55 = .ok (.goto (-23), 3) := by decide +kernel
theorem dX12_parse_58 : decode cX12_parse 58 = .ok (.aload_n 0, 1) := by decide +kernel
theorem dX12_parse_59 : decode cX12_parse 59 = .ok (.dup, 1) := by decide +kernel
theorem dX12_parse_60 : decode cX12_parse 60 = .ok (.getfield 69, 3) := by decide +kernel
theorem dX12_parse_63 : decode cX12_parse 63 = .ok (.aload_n 0, 1) := by decide +kernel
theorem dX12_parse_64 : decode cX12_parse 64 = .ok (.getfield 63, 3) := by decide +kernel
theorem dX12_parse_67 : decode cX12_parse 67 = .ok (.aload_n 0, 1) := by decide +kernel
theorem dX12_parse_68 : decode cX12_parse 68 = .ok (.getfield 60, 3) := by decide +kernel
theorem dX12_parse_71 : decode cX12_parse 71 = .ok (.if_icmp .ge 7, 3) := by decide +kernel
theorem dX12_parse_74 : decode cX12_parse 74 = .ok (.iconst 1, 1) := by decide +kernel
theorem dX12_parse_75 : decode cX12_parse 75 = .ok (.goto 4, 3) := by decide +kernel
theorem dX12_parse_78 : decode cX12_parse 78 = .ok (.iconst 0, 1) := by decide +kernel
theorem dX12_parse_79 : decode cX12_parse 79 = .ok (.ior, 1) := by decide +kernel
theorem dX12_parse_80 : decode cX12_parse 80 = .ok (.putfield 69, 3) := by decide +kernel
theorem dX12_parse_83 : decode cX12_parse 83 = .ok (.return_, 1) := by decide +kernel
theorem dX12_cannot_0 : decode cX12_cannot 0 = .ok (.bipush 6, 2) := by decide +kernel
theorem dX12_cannot_2 : decode cX12_cannot 2 = .ok (.iload_n 1, 1) := by decide +kernel
theorem dX12_cannot_3 : decode cX12_cannot 3 = .ok (.imul, 1) := by decide +kernel
theorem dX12_cannot_4 : decode cX12_cannot 4 = .ok (.istore_n 2, 1) := by decide +kernel
theorem dX12_cannot_5 : decode cX12_cannot 5 = .ok (.aload_n 0, 1) := by decide +kernel
theorem dX12_cannot_6 : decode cX12_cannot 6 = .ok (.getfield 51, 3) := by decide +kernel
theorem dX12_cannot_9 : decode cX12_cannot 9 = .ok (.iload_n 2, 1) := by decide +kernel
theorem dX12_cannot_10 : decode cX12_cannot 10 = .ok (.iaload, 1) := by decide +kernel
theorem dX12_cannot_11 : decode cX12_cannot 11 = .ok (.istore_n 3, 1) := by decide +kernel
theorem dX12_cannot_12 : decode cX12_cannot 12 = .ok (.aload_n 0, 1) := by decide +kernel
theorem dX12_cannot_13 : decode cX12_cannot 13 = .ok (.getfield 51, 3) := by decide +kernel
theorem dX12_cannot_16 : decode cX12_cannot 16 = .ok (.iload_n 2, 1) := by decide +kernel
theorem dX12_cannot_17 : decode cX12_cannot 17 = .ok (.iconst 1, 1) := by decide +kernel
theorem dX12_cannot_18 : decode cX12_cannot 18 = .ok (.iadd, 1) := by decide +kernel
theorem dX12_cannot_19 : decode cX12_cannot 19 = .ok (.iaload, 1) := by decide +kernel
theorem dX12_cannot_20 : decode cX12_cannot 20 = .ok (.istore 4, 2) := by decide +kernel
theorem dX12_cannot_22 : decode cX12_cannot 22 = .ok (.aload_n 0, 1) := by decide +kernel
theorem dX12_cannot_23 : decode cX12_cannot 23 = .ok (.getfield 51, 3) := by decide +kernel
theorem dX12_cannot_26 : decode cX12_cannot 26 = .ok (.iload_n 2, 1) := by decide +kernel
theorem dX12_cannot_27 : decode cX12_cannot 27 = .ok (.iconst 2, 1) := by decide +kernel
theorem dX12_cannot_28 : decode cX12_cannot 28 = .ok (.iadd, 1) := by decide +kernel
theorem dX12_cannot_29 : decode cX12_cannot 29 = .ok (.iaload, 1) := by decide +kernel
theorem dX12_cannot_30 : decode cX12_cannot 30 = .ok (.istore 5, 2) := by decide +kernel
theorem dX12_cannot_32 : decode cX12_cannot 32 = .ok (.iconst 0, 1) := by decide +kernel
theorem dX12_cannot_33 : decode cX12_cannot 33 = .ok (.istore 6, 2) := by decide +kernel
theorem dX12_cannot_35 : decode cX12_cannot 35 = .ok (.aload_n 0, 1) := by decide +kernel
theorem dX12_cannot_36 : decode cX12_cannot 36 = .ok (.getfield 48, 3) := by decide +kernel
theorem dX12_cannot_39 : decode cX12_cannot 39 = .ok (.iload_n 1, 1) := by decide +kernel
theorem dX12_cannot_40 : decode cX12_cannot 40 = .ok (.iaload, 1) := by decide +kernel
theorem dX12_cannot_41 : decode cX12_cannot 41 = .ok (.tableswitch 278 0 7 #[47, 122, 149, 173, 197, 217, 237, 257], 47) := by decide +kernel
theorem dX12_cannot_88 : decode cX12_cannot 88 = .ok (.aload_n 0, 1) := by decide +kernel
theorem dX12_cannot_89 : decode cX12_cannot 89 = .ok (.iload_n 3, 1) := by decide +kernel
theorem dX12_cannot_90 : decode cX12_cannot 90 = .ok (.iload 4, 2) := by decide +kernel
theorem dX12_cannot_92 : decode cX12_cannot 92 = .ok (.iload 5, 2) := by decide +kernel
theorem dX12_cannot_94 : decode cX12_cannot 94 = .ok (.aload_n 0, 1) := by decide +kernel
theorem dX12_cannot_95 : decode cX12_cannot 95 = .ok (.getfield 51, 3) := by decide +kernel
theorem dX12_cannot_98 : decode cX12_cannot 98 = .ok (.iload_n 2, 1) := by decide +kernel
theorem dX12_cannot_99 : decode cX12_cannot 99 = .ok (.iconst 3, 1) := by decide +kernel
theorem dX12_cannot_100 : decode cX12_cannot 100 = .ok (.iadd, 1) := by decide +kernel
theorem dX12_cannot_101 : decode cX12_cannot 101 = .ok (.iaload, 1) := by decide +kernel
theorem dX12_cannot_102 : decode cX12_cannot 102 = .ok (.aload_n 0, 1) := by decide +kernel
theorem dX12_cannot_103 : decode cX12_cannot 103 = .ok (.getfield 51, 3) := by decide +kernel
theorem dX12_cannot_106 : decode cX12_cannot 106 = .ok (.iload_n 2, 1) := by decide +kernel
theorem dX12_cannot_107 : decode cX12_cannot 107 = .ok (.iconst 4, 1) := by decide +kernel
theorem dX12_cannot_108 : decode cX12_cannot 108 = .ok (.iadd, 1) := by decide +kernel
theorem dX12_cannot_109 : decode cX12_cannot 109 = .ok (.iaload, 1) := by decide +kernel
theorem dX12_cannot_110 : decode cX12_cannot 110 = .ok (.aload_n 0, 1) := by decide +kernel
theorem dX12_cannot_111 : decode cX12_cannot 111 = .ok (.getfield 51, 3) := by decide +kernel
theorem dX12_cannot_114 : decode cX12_cannot 114 = .ok (.iload_n 2, 1) := by decide +kernel
theorem dX12_cannot_115 : decode cX12_cannot 115 = .ok (.iconst 5, 1) := by decide +kernel
theorem dX12_cannot_116 : decode cX12_cannot 116 = .ok (.iadd, 1) := by decide +kernel
theorem dX12_cannot_117 : decode cX12_cannot 117 = .ok (.iaload, 1) := by decide +kernel
theorem dX12_cannot_118 : decode cX12_cannot 118 = .ok (.invokevirtual 115, 3) := by decide +kernel
theorem dX12_cannot_121 : decode cX12_cannot 121 = .ok (.ifCond .le 5, 3) := by decide +kernel
theorem dX12_cannot_124 : decode cX12_cannot 124 = .ok (.iconst 1, 1) := by decide +kernel
theorem dX12_cannot_125 : decode cX12_cannot 125 = .ok (.ireturn, 1) := by decide +kernel
theorem dX12_cannot_126 : decode cX12_cannot 126 = .ok (.aload_n 0, 1) := by decide +kernel
theorem dX12_cannot_127 : decode cX12_cannot 127 = .ok (.iload_n 3, 1) := by decide +kernel
theorem dX12_cannot_128 : decode cX12_cannot 128 = .ok (.iload 4, 2) := by decide +kernel
theorem dX12_cannot_130 : decode cX12_cannot 130 = .ok (.iload 5, 2) := by decide +kernel
theorem dX12_cannot_132 : decode cX12_cannot 132 = .ok (.aload_n 0, 1) := by decide +kernel
theorem dX12_cannot_133 : decode cX12_cannot 133 = .ok (.getfield 51, 3) := by decide +kernel
theorem dX12_cannot_136 : decode cX12_cannot 136 = .ok (.iload_n 2, 1) := by decide +kernel
theorem dX12_cannot_137 : decode cX12_cannot 137 = .ok (.iconst 3, 1) := by decide +kernel
theorem dX12_cannot_138 : decode cX12_cannot 138 = .ok (.iadd, 1) := by decide +kernel
theorem dX12_cannot_139 : decode cX12_cannot 139 = .ok (.iaload, 1) := by decide +kernel
theorem dX12_cannot_140 : decode cX12_cannot 140 = .ok (.aload_n 0, 1) := by decide +kernel
theorem dX12_cannot_141 : decode cX12_cannot 141 = .ok (.getfield 51, 3) := by decide +kernel
theorem dX12_cannot_144 : decode cX12_cannot 144 = .ok (.iload_n 2, 1) := by decide +kernel
theorem dX12_cannot_145 : decode cX12_cannot 145 = .ok (.iconst 4, 1) := by decide +kernel
theorem dX12_cannot_146 : decode cX12_cannot 146 = .ok (.iadd, 1) := by decide +kernel
theorem dX12_cannot_147 : decode cX12_cannot 147 = .ok (.iaload, 1) := by decide +kernel
theorem dX12_cannot_148 : decode cX12_cannot 148 = .ok (.aload_n 0, 1) := by decide +kernel
theorem dX12_cannot_149 : decode cX12_cannot 149 = .ok (.getfield 51, 3) := by decide +kernel
theorem dX12_cannot_152 : decode cX12_cannot 152 = .ok (.iload_n 2, 1) := by decide +kernel
theorem dX12_cannot_153 : decode cX12_cannot 153 = .ok (.iconst 5, 1) := by decide +kernel
theorem dX12_cannot_154 : decode cX12_cannot 154 = .ok (.iadd, 1) := by decide +kernel
theorem dX12_cannot_155 : decode cX12_cannot 155 = .ok (.iaload, 1) := by decide +kernel
theorem dX12_cannot_156 : decode cX12_cannot 156 = .ok (.invokevirtual 122, 3) := by decide +kernel
theorem dX12_cannot_159 : decode cX12_cannot 159 = .ok (.istore 6, 2) := by decide +kernel
theorem dX12_cannot_161 : decode cX12_cannot 161 = .ok (.iconst 0, 1) := by decide +kernel
theorem dX12_cannot_162 : decode cX12_cannot 162 = .ok (.ireturn, 1) := by decide +kernel
theorem dX12_cannot_163 : decode cX12_cannot 163 = .ok (.aload_n 0, 1) := by decide +kernel
theorem dX12_cannot_164 : decode cX12_cannot 164 = .ok (.iload_n 3, 1) := by decide +kernel
theorem dX12_cannot_165 : decode cX12_cannot 165 = .ok (.iload 4, 2) := by decide +kernel
theorem dX12_cannot_167 : decode cX12_cannot 167 = .ok (.iload 5, 2) := by decide +kernel
theorem dX12_cannot_169 : decode cX12_cannot 169 = .ok (.invokevirtual 134, 3) := by decide +kernel
theorem dX12_cannot_172 : decode cX12_cannot 172 = .ok (.ifCond .le 5, 3) := by decide +kernel
theorem dX12_cannot_175 : decode cX12_cannot 175 = .ok (.iconst 1, 1) := by decide +kernel
theorem dX12_cannot_176 : decode cX12_cannot 176 = .ok (.ireturn, 1) := by decide +kernel
theorem dX12_cannot_177 : decode cX12_cannot 177 = .ok (.aload_n 0, 1) := by decide +kernel
theorem dX12_cannot_178 : decode cX12_cannot 178 = .ok (.iload_n 3, 1) := by decide +kernel
theorem dX12_cannot_179 : decode cX12_cannot 179 = .ok (.iload 4, 2) := by decide +kernel
theorem dX12_cannot_181 : decode cX12_cannot 181 = .ok (.iload 5, 2) := by decide +kernel
theorem dX12_cannot_183 : decode cX12_cannot 183 = .ok (.invokevirtual 138, 3) := by decide +kernel
theorem dX12_cannot_186 : decode cX12_cannot 186 = .ok (.istore 6, 2) := by decide +kernel
theorem dX12_cannot_188 : decode cX12_cannot 188 = .ok (.iconst 0, 1) := by decide +kernel
theorem dX12_cannot_189 : decode cX12_cannot 189 = .ok (.ireturn, 1) := by decide +kernel
theorem dX12_cannot_190 : decode cX12_cannot 190 = .ok (.aload_n 0, 1) := by decide +kernel
theorem dX12_cannot_191 : decode cX12_cannot 191 = .ok (.iload_n 3, 1) := by decide +kernel
theorem dX12_cannot_192 : decode cX12_cannot 192 = .ok (.iload 4, 2) := by decide +kernel
theorem dX12_cannot_194 : decode cX12_cannot 194 = .ok (.invokevirtual 141, 3) := by decide +kernel
theorem dX12_cannot_197 : decode cX12_cannot 197 = .ok (.ifCond .le 5, 3) := by decide +kernel
theorem dX12_cannot_200 : decode cX12_cannot 200 = .ok (.iconst 1, 1) := by decide +kernel
theorem dX12_cannot_201 : decode cX12_cannot 201 = .ok (.ireturn, 1) := by decide +kernel
theorem dX12_cannot_202 : decode cX12_cannot 202 = .ok (.aload_n 0, 1) := by decide +kernel
theorem dX12_cannot_203 : decode cX12_cannot 203 = .ok (.iload_n 3, 1) := by decide +kernel
theorem dX12_cannot_204 : decode cX12_cannot 204 = .ok (.iconst 4, 1) := by decide +kernel
theorem dX12_cannot_205 : decode cX12_cannot 205 = .ok (.iload 4, 2) := by decide +kernel
theorem dX12_cannot_207 : decode cX12_cannot 207 = .ok (.invokevirtual 144, 3) := by decide +kernel
theorem dX12_cannot_210 : decode cX12_cannot 210 = .ok (.istore 6, 2) := by decide +kernel
theorem dX12_cannot_212 : decode cX12_cannot 212 = .ok (.iconst 0, 1) := by decide +kernel
theorem dX12_cannot_213 : decode cX12_cannot 213 = .ok (.ireturn, 1) := by decide +kernel
theorem dX12_cannot_214 : decode cX12_cannot 214 = .ok (.aload_n 0, 1) := by decide +kernel
theorem dX12_cannot_215 : decode cX12_cannot 215 = .ok (.iload_n 3, 1) := by decide +kernel
theorem dX12_cannot_216 : decode cX12_cannot 216 = .ok (.iload 4, 2) := by decide +kernel
theorem dX12_cannot_218 : decode cX12_cannot 218 = .ok (.invokevirtual 147, 3) := by decide +kernel
theorem dX12_cannot_221 : decode cX12_cannot 221 = .ok (.ifCond .le 5, 3) := by decide +kernel
theorem dX12_cannot_224 : decode cX12_cannot 224 = .ok (.iconst 1, 1) := by decide +kernel
theorem dX12_cannot_225 : decode cX12_cannot 225 = .ok (.ireturn, 1) := by decide +kernel
theorem dX12_cannot_226 : decode cX12_cannot 226 = .ok (.aload_n 0, 1) := by decide +kernel
theorem dX12_cannot_227 : decode cX12_cannot 227 = .ok (.iload_n 3, 1) := by decide +kernel
theorem dX12_cannot_228 : decode cX12_cannot 228 = .ok (.iconst 5, 1) := by decide +kernel
theorem dX12_cannot_229 : decode cX12_cannot 229 = .ok (.iload 4, 2) := by decide +kernel
theorem dX12_cannot_231 : decode cX12_cannot 231 = .ok (.invokevirtual 144, 3) := by decide +kernel
theorem dX12_cannot_234 : decode cX12_cannot 234 = .ok (.istore 6, 2) := by decide +kernel
theorem dX12_cannot_236 : decode cX12_cannot 236 = .ok (.iconst 0, 1) := by decide +kernel
theorem dX12_cannot_237 : decode cX12_cannot 237 = .ok (.ireturn, 1) := by decide +kernel
theorem dX12_cannot_238 : decode cX12_cannot 238 = .ok (.aload_n 0, 1) := by decide +kernel
theorem dX12_cannot_239 : decode cX12_cannot 239 = .ok (.iload_n 3, 1) := by decide +kernel
theorem dX12_cannot_240 : decode cX12_cannot 240 = .ok (.iconst 0, 1) := by decide +kernel
theorem dX12_cannot_241 : decode cX12_cannot 241 = .ok (.invokevirtual 157, 3) := by decide +kernel
theorem dX12_cannot_244 : decode cX12_cannot 244 = .ok (.ifCond .le 5, 3) := by decide +kernel
theorem dX12_cannot_247 : decode cX12_cannot 247 = .ok (.iconst 1, 1) := by decide +kernel
theorem dX12_cannot_248 : decode cX12_cannot 248 = .ok (.ireturn, 1) := by decide +kernel
theorem dX12_cannot_249 : decode cX12_cannot 249 = .ok (.aload_n 0, 1) := by decide +kernel
theorem dX12_cannot_250 : decode cX12_cannot 250 = .ok (.iload_n 3, 1) := by decide +kernel
theorem dX12_cannot_251 : decode cX12_cannot 251 = .ok (.invokevirtual 160, 3) := by decide +kernel
theorem dX12_cannot_254 : decode cX12_cannot 254 = .ok (.istore 6, 2) := by decide +kernel
theorem dX12_cannot_256 : decode cX12_cannot 256 = .ok (.iconst 0, 1) := by decide +kernel
theorem dX12_cannot_257 : decode cX12_cannot 257 = .ok (.ireturn, 1) := by decide +kernel
theorem dX12_cannot_258 : decode cX12_cannot 258 = .ok (.aload_n 0, 1) := by decide +kernel
theorem dX12_cannot_259 : decode cX12_cannot 259 = .ok (.iload_n 3, 1) := by decide +kernel
theorem dX12_cannot_260 : decode cX12_cannot 260 = .ok (.iconst 1, 1) := by decide +kernel
theorem dX12_cannot_261 : decode cX12_cannot 261 = .ok (.invokevirtual 157, 3) := by decide +kernel
theorem dX12_cannot_264 : decode cX12_cannot 264 = .ok (.ifCond .le 5, 3) := by decide +kernel
theorem dX12_cannot_267 : decode cX12_cannot 267 = .ok (.iconst 1, 1) := by decide +kernel
theorem dX12_cannot_268 : decode cX12_cannot 268 = .ok (.ireturn, 1) := by decide +kernel
theorem dX12_cannot_269 : decode cX12_cannot 269 = .ok (.aload_n 0, 1) := by decide +kernel
theorem dX12_cannot_270 : decode cX12_cannot 270 = .ok (.iload_n 3, 1) := by decide +kernel
theorem dX12_cannot_271 : decode cX12_cannot 271 = .ok (.invokevirtual 169, 3) := by decide +kernel
theorem dX12_cannot_274 : decode cX12_cannot 274 = .ok (.istore 6, 2) := by decide +kernel
theorem dX12_cannot_276 : decode cX12_cannot 276 = .ok (.iconst 0, 1) := by decide +kernel
theorem dX12_cannot_277 : decode cX12_cannot 277 = .ok (.ireturn, 1) := by decide +kernel
theorem dX12_cannot_278 : decode cX12_cannot 278 = .ok (.aload_n 0, 1) := by decide +kernel
theorem dX12_cannot_279 : decode cX12_cannot 279 = .ok (.iload_n 3, 1) := by decide +kernel
theorem dX12_cannot_280 : decode cX12_cannot 280 = .ok (.iconst 2, 1) := by decide +kernel
theorem dX12_cannot_281 : decode cX12_cannot 281 = .ok (.invokevirtual 157, 3) := by decide +kernel
theorem dX12_cannot_284 : decode cX12_cannot 284 = .ok (.ifCond .le 5, 3) := by decide +kernel
theorem dX12_cannot_287 : decode cX12_cannot 287 = .ok (.iconst 1, 1) := by decide +kernel
theorem dX12_cannot_288 : decode cX12_cannot 288 = .ok (.ireturn, 1) := by decide +kernel
theorem dX12_cannot_289 : decode cX12_cannot 289 = .ok (.aload_n 0, 1) := by decide +kernel
theorem dX12_cannot_290 : decode cX12_cannot 290 = .ok (.iload_n 3, 1) := by decide +kernel
theorem dX12_cannot_291 : decode cX12_cannot 291 = .ok (.invokevirtual 175, 3) := by decide +kernel
theorem dX12_cannot_294 : decode cX12_cannot 294 = .ok (.istore 6, 2) := by decide +kernel
theorem dX12_cannot_296 : decode cX12_cannot 296 = .ok (.iconst 0, 1) := by decide +kernel
theorem dX12_cannot_297 : decode cX12_cannot 297 = .ok (.ireturn, 1) := by decide +kernel
theorem dX12_cannot_298 : decode cX12_cannot 298 = .ok (.iload_n 3, 1) := by decide +kernel
theorem dX12_cannot_299 : decode cX12_cannot 299 = .ok (.iconst 1, 1) := by decide +kernel
theorem dX12_cannot_300 : decode cX12_cannot 300 = .ok (.bipush 60, 2) := by decide +kernel
theorem dX12_cannot_302 : decode cX12_cannot 302 = .ok (.invokestatic 76, 3) := by decide +kernel
theorem dX12_cannot_305 : decode cX12_cannot 305 = .ok (.ifCond .ne 5, 3) := by decide +kernel
theorem dX12_cannot_308 : decode cX12_cannot 308 = .ok (.iconst 1, 1) := by decide +kernel
theorem dX12_cannot_309 : decode cX12_cannot 309 = .ok (.ireturn, 1) := by decide +kernel
theorem dX12_cannot_310 : decode cX12_cannot 310 = .ok (.aload_n 0, 1) := by decide +kernel
theorem dX12_cannot_311 : decode cX12_cannot 311 = .ok (.iload_n 3, 1) := by decide +kernel
theorem dX12_cannot_312 : decode cX12_cannot 312 = .ok (.invokevirtual 178, 3) := by decide +kernel
theorem dX12_cannot_315 : decode cX12_cannot 315 = .ok (.istore 6, 2) := by decide +kernel
theorem dX12_cannot_317 : decode cX12_cannot 317 = .ok (.iconst 0, 1) := by decide +kernel
theorem dX12_cannot_318 : decode cX12_cannot 318 = .ok (.ireturn, 1) := by decide +kernel
theorem dX12_cannot_319 : decode cX12_cannot 319 = .ok (.iload_n 3, 1) := by decide +kernel
theorem dX12_cannot_320 : decode cX12_cannot 320 = .ok (.iconst 1, 1) := by decide +kernel
theorem dX12_cannot_321 : decode cX12_cannot 321 = .ok (.bipush 60, 2) := by decide +kernel
theorem dX12_cannot_323 : decode cX12_cannot 323 = .ok (.invokestatic 76, 3) := by decide +kernel
theorem dX12_cannot_326 : decode cX12_cannot 326 = .ok (.ifCond .ne 5, 3) := by decide +kernel
theorem dX12_cannot_329 : decode cX12_cannot 329 = .ok (.iconst 1, 1) := by decide +kernel
theorem dX12_cannot_330 : decode cX12_cannot 330 = .ok (.ireturn, 1) := by decide +kernel
theorem dX12_cannot_331 : decode cX12_cannot 331 = .ok (.aload_n 0, 1) := by decide +kernel
theorem dX12_cannot_332 : decode cX12_cannot 332 = .ok (.iload_n 3, 1) := by decide +kernel
theorem dX12_cannot_333 : decode cX12_cannot 333 = .ok (.invokevirtual 191, 3) := by decide +kernel
theorem dX12_cannot_336 : decode cX12_cannot 336 = .ok (.istore 6, 2) := by decide +kernel
theorem dX12_cannot_338 : decode cX12_cannot 338 = .ok (.iconst 0, 1) := by decide +kernel
theorem dX12_cannot_339 : decode cX12_cannot 339 = .ok (.ireturn, 1) := by decide +kernel
theorem dX12_run_0 : decode cX12_run 0 = .ok (.aload_n 0, 1) := by decide +kernel
theorem dX12_run_1 : decode cX12_run 1 = .ok (.invokevirtual 112, 3) := by decide +kernel
theorem dX12_run_4 : decode cX12_run 4 = .ok (.aload_n 0, 1) := by decide +kernel
theorem dX12_run_5 : decode cX12_run 5 = .ok (.invokevirtual 264, 3) := by decide +kernel
theorem dX12_run_8 : decode cX12_run 8 = .ok (.aload_n 0, 1) := by decide +kernel
theorem dX12_run_9 : decode cX12_run 9 = .ok (.getfield 69, 3) := by decide +kernel
theorem dX12_run_12 : decode cX12_run 12 = .ok (.ifCond .eq 17, 3) := by decide +kernel
theorem dX12_run_15 : decode cX12_run 15 = .ok (.aload_n 0, 1) := by decide +kernel
theorem dX12_run_16 : decode cX12_run 16 = .ok (.aload_n 0, 1) := by decide +kernel
theorem dX12_run_17 : decode cX12_run 17 = .ok (.getfield 63, 3) := by decide +kernel
theorem dX12_run_20 : decode cX12_run 20 = .ok (.putfield 29, 3) := by decide +kernel
theorem dX12_run_23 : decode cX12_run 23 = .ok (.aload_n 0, 1) := by decide +kernel
theorem dX12_run_24 : decode cX12_run 24 = .ok (.iconst 1, 1) := by decide +kernel
theorem dX12_run_25 : decode cX12_run 25 = .ok (.invokevirtual 119, 3) := by decide +kernel
theorem dX12_run_28 : decode cX12_run 28 = .ok (.ireturn, 1) := by decide +kernel
theorem dX12_run_29 : decode cX12_run 29 = .ok (.iconst 0, 1) := by decide +kernel
theorem dX12_run_30 : decode cX12_run 30 = .ok (.istore_n 1, 1) := by decide +kernel
theorem dX12_run_31 : decode cX12_run 31 = .ok (.iload_n 1, 1) := by decide +kernel
theorem dX12_run_32 : decode cX12_run 32 = .ok (.aload_n 0, 1) := by decide +kernel
theorem dX12_run_33 : decode cX12_run 33 = .ok (.getfield 66, 3) := by decide +kernel
theorem dX12_run_36 : decode cX12_run 36 = .ok (.if_icmp .ge 44, 3) := by decide +kernel
theorem dX12_run_39 : decode cX12_run 39 = .ok (.aload_n 0, 1) := by decide +kernel
theorem dX12_run_40 : decode cX12_run 40 = .ok (.iload_n 1, 1) := by decide +kernel
theorem dX12_run_41 : decode cX12_run 41 = .ok (.invokevirtual 267, 3) := by decide +kernel
theorem dX12_run_44 : decode cX12_run 44 = .ok (.ifCond .ne 6, 3) := by decide +kernel
theorem dX12_run_47 : decode cX12_run 47 = .ok (.goto 27, 3) := by decide +kernel
theorem dX12_run_50 : decode cX12_run 50 = .ok (.aload_n 0, 1) := by decide +kernel
theorem dX12_run_51 : decode cX12_run 51 = .ok (.getfield 13, 3) := by decide +kernel
theorem dX12_run_54 : decode cX12_run 54 = .ok (.iconst 0, 1) := by decide +kernel
theorem dX12_run_55 : decode cX12_run 55 = .ok (.aload_n 0, 1) := by decide +kernel
theorem dX12_run_56 : decode cX12_run 56 = .ok (.getfield 7, 3) := by decide +kernel
theorem dX12_run_59 : decode cX12_run 59 = .ok (.iconst 0, 1) := by decide +kernel
theorem dX12_run_60 : decode cX12_run 60 = .ok (.invokestatic 72, 3) := by decide +kernel
theorem dX12_run_63 : decode cX12_run 63 = .ok (.aload_n 0, 1) := by decide +kernel
theorem dX12_run_64 : decode cX12_run 64 = .ok (.iload_n 1, 1) := by decide +kernel
theorem dX12_run_65 : decode cX12_run 65 = .ok (.putfield 32, 3) := by decide +kernel
theorem dX12_run_68 : decode cX12_run 68 = .ok (.aload_n 0, 1) := by decide +kernel
theorem dX12_run_69 : decode cX12_run 69 = .ok (.iconst 2, 1) := by decide +kernel
theorem dX12_run_70 : decode cX12_run 70 = .ok (.invokevirtual 119, 3) := by decide +kernel
theorem dX12_run_73 : decode cX12_run 73 = .ok (.ireturn, 1) := by decide +kernel
theorem dX12_run_74 : decode cX12_run 74 = .ok (.iinc 1 1, 3) := by decide +kernel
theorem dX12_run_77 : decode cX12_run 77 = .ok (.goto (-46), 3) := by decide +kernel
theorem dX12_run_80 : decode cX12_run 80 = .ok (.aload_n 0, 1) := by decide +kernel
theorem dX12_run_81 : decode cX12_run 81 = .ok (.aload_n 0, 1) := by decide +kernel
theorem dX12_run_82 : decode cX12_run 82 = .ok (.getfield 66, 3) := by decide +kernel
theorem dX12_run_85 : decode cX12_run 85 = .ok (.invokevirtual 125, 3) := by decide +kernel
theorem dX12_run_88 : decode cX12_run 88 = .ok (.ireturn, 1) := by decide +kernel
theorem dX12_present_0 : decode cX12_present 0 = .ok (.aload_n 0, 1) := by decide +kernel
theorem dX12_present_1 : decode cX12_present 1 = .ok (.iload_n 1, 1) := by decide +kernel
theorem dX12_present_2 : decode cX12_present 2 = .ok (.ifCond .ge 7, 3) := by decide +kernel
theorem dX12_present_5 : decode cX12_present 5 = .ok (.iconst 1, 1) := by decide +kernel
theorem dX12_present_6 : decode cX12_present 6 = .ok (.goto 4, 3) := by decide +kernel
theorem dX12_present_9 : decode cX12_present 9 = .ok (.iconst 0, 1) := by decide +kernel
theorem dX12_present_10 : decode cX12_present 10 = .ok (.putfield 22, 3) := by decide +kernel
theorem dX12_present_13 : decode cX12_present 13 = .ok (.aload_n 0, 1) := by decide +kernel
theorem dX12_present_14 : decode cX12_present 14 = .ok (.getfield 22, 3) := by decide +kernel
theorem dX12_present_17 : decode cX12_present 17 = .ok (.ifCond .le 7, 3) := by decide +kernel
theorem dX12_present_20 : decode cX12_present 20 = .ok (.iconst 0, 1) := by decide +kernel
theorem dX12_present_21 : decode cX12_present 21 = .ok (.goto 4, 3) := by decide +kernel
theorem dX12_present_24 : decode cX12_present 24 = .ok (.iload_n 1, 1) := by decide +kernel
theorem dX12_present_25 : decode cX12_present 25 = .ok (.ireturn, 1) := by decide +kernel
theorem dX12_errorPosition_0 : decode cX12_errorPosition 0 = .ok (.aload_n 0, 1) := by decide +kernel
theorem dX12_errorPosition_1 : decode cX12_errorPosition 1 = .ok (.aload_n 0, 1) := by decide +kernel
theorem dX12_errorPosition_2 : decode cX12_errorPosition 2 = .ok (.getfield 29, 3) := by decide +kernel
theorem dX12_errorPosition_5 : decode cX12_errorPosition 5 = .ok (.invokevirtual 270, 3) := by decide +kernel
theorem dX12_errorPosition_8 : decode cX12_errorPosition 8 = .ok (.ireturn, 1) := by decide +kernel
theorem dX12_failedCommand_0 : decode cX12_failedCommand 0 = .ok (.aload_n 0, 1) := by decide +kernel
theorem dX12_failedCommand_1 : decode cX12_failedCommand 1 = .ok (.aload_n 0, 1) := by decide +kernel
theorem dX12_failedCommand_2 : decode cX12_failedCommand 2 = .ok (.getfield 32, 3) := by decide +kernel
theorem dX12_failedCommand_5 : decode cX12_failedCommand 5 = .ok (.invokevirtual 270, 3) := by decide +kernel
theorem dX12_failedCommand_8 : decode cX12_failedCommand 8 = .ok (.ireturn, 1) := by decide +kernel
theorem dX12_undo_0 : decode cX12_undo 0 = .ok (.aload_n 0, 1) := by decide +kernel
theorem dX12_undo_1 : decode cX12_undo 1 = .ok (.aload_n 0, 1) := by decide +kernel
theorem dX12_undo_2 : decode cX12_undo 2 = .ok (.getfield 26, 3) := by decide +kernel
theorem dX12_undo_5 : decode cX12_undo 5 = .ok (.ifCond .ne 7, 3) := by decide +kernel
theorem dX12_undo_8 : decode cX12_undo 8 = .ok (.iconst 1, 1) := by decide +kernel
theorem dX12_undo_9 : decode cX12_undo 9 = .ok (.goto 4, 3) := by decide +kernel
theorem dX12_undo_12 : decode cX12_undo 12 = .ok (.iconst 0, 1) := by decide +kernel
theorem dX12_undo_13 : decode cX12_undo 13 = .ok (.putfield 22, 3) := by decide +kernel
theorem dX12_undo_16 : decode cX12_undo 16 = .ok (.aload_n 0, 1) := by decide +kernel
theorem dX12_undo_17 : decode cX12_undo 17 = .ok (.getfield 22, 3) := by decide +kernel
theorem dX12_undo_20 : decode cX12_undo 20 = .ok (.ifCond .le 5, 3) := by decide +kernel
theorem dX12_undo_23 : decode cX12_undo 23 = .ok (.iconst 0, 1) := by decide +kernel
theorem dX12_undo_24 : decode cX12_undo 24 = .ok (.ireturn, 1) := by decide +kernel
theorem dX12_undo_25 : decode cX12_undo 25 = .ok (.aload_n 0, 1) := by decide +kernel
theorem dX12_undo_26 : decode cX12_undo 26 = .ok (.dup, 1) := by decide +kernel
theorem dX12_undo_27 : decode cX12_undo 27 = .ok (.getfield 26, 3) := by decide +kernel
theorem dX12_undo_30 : decode cX12_undo 30 = .ok (.iconst 1, 1) := by decide +kernel
theorem dX12_undo_31 : decode cX12_undo 31 = .ok (.isub, 1) := by decide +kernel
theorem dX12_undo_32 : decode cX12_undo 32 = .ok (.putfield 26, 3) := by decide +kernel
theorem dX12_undo_35 : decode cX12_undo 35 = .ok (.aload_n 0, 1) := by decide +kernel
theorem dX12_undo_36 : decode cX12_undo 36 = .ok (.getfield 19, 3) := by decide +kernel
theorem dX12_undo_39 : decode cX12_undo 39 = .ok (.sipush 160, 3) := by decide +kernel
theorem dX12_undo_42 : decode cX12_undo 42 = .ok (.aload_n 0, 1) := by decide +kernel
theorem dX12_undo_43 : decode cX12_undo 43 = .ok (.getfield 26, 3) := by decide +kernel
theorem dX12_undo_46 : decode cX12_undo 46 = .ok (.imul, 1) := by decide +kernel
theorem dX12_undo_47 : decode cX12_undo 47 = .ok (.aload_n 0, 1) := by decide +kernel
theorem dX12_undo_48 : decode cX12_undo 48 = .ok (.getfield 7, 3) := by decide +kernel
theorem dX12_undo_51 : decode cX12_undo 51 = .ok (.iconst 0, 1) := by decide +kernel
theorem dX12_undo_52 : decode cX12_undo 52 = .ok (.invokestatic 72, 3) := by decide +kernel
theorem dX12_undo_55 : decode cX12_undo 55 = .ok (.aload_n 0, 1) := by decide +kernel
theorem dX12_undo_56 : decode cX12_undo 56 = .ok (.getfield 26, 3) := by decide +kernel
theorem dX12_undo_59 : decode cX12_undo 59 = .ok (.ireturn, 1) := by decide +kernel
theorem dX12_save_0 : decode cX12_save 0 = .ok (.aload_n 0, 1) := by decide +kernel
theorem dX12_save_1 : decode cX12_save 1 = .ok (.iconst 0, 1) := by decide +kernel
theorem dX12_save_2 : decode cX12_save 2 = .ok (.putfield 22, 3) := by decide +kernel
theorem dX12_save_5 : decode cX12_save 5 = .ok (.aload_n 0, 1) := by decide +kernel
theorem dX12_save_6 : decode cX12_save 6 = .ok (.getfield 7, 3) := by decide +kernel
theorem dX12_save_9 : decode cX12_save 9 = .ok (.iconst 0, 1) := by decide +kernel
theorem dX12_save_10 : decode cX12_save 10 = .ok (.aload_n 0, 1) := by decide +kernel
theorem dX12_save_11 : decode cX12_save 11 = .ok (.getfield 16, 3) := by decide +kernel
theorem dX12_save_14 : decode cX12_save 14 = .ok (.iconst 0, 1) := by decide +kernel
theorem dX12_save_15 : decode cX12_save 15 = .ok (.invokestatic 72, 3) := by decide +kernel
theorem dX12_save_18 : decode cX12_save 18 = .ok (.aload_n 0, 1) := by decide +kernel
theorem dX12_save_19 : decode cX12_save 19 = .ok (.iconst 1, 1) := by decide +kernel
theorem dX12_save_20 : decode cX12_save 20 = .ok (.putfield 35, 3) := by decide +kernel
theorem dX12_save_23 : decode cX12_save 23 = .ok (.aload_n 0, 1) := by decide +kernel
theorem dX12_save_24 : decode cX12_save 24 = .ok (.getfield 7, 3) := by decide +kernel
theorem dX12_save_27 : decode cX12_save 27 = .ok (.iconst 0, 1) := by decide +kernel
theorem dX12_save_28 : decode cX12_save 28 = .ok (.iaload, 1) := by decide +kernel
theorem dX12_save_29 : decode cX12_save 29 = .ok (.ireturn, 1) := by decide +kernel
theorem dX12_restore_0 : decode cX12_restore 0 = .ok (.aload_n 0, 1) := by decide +kernel
theorem dX12_restore_1 : decode cX12_restore 1 = .ok (.aload_n 0, 1) := by decide +kernel
theorem dX12_restore_2 : decode cX12_restore 2 = .ok (.getfield 35, 3) := by decide +kernel
theorem dX12_restore_5 : decode cX12_restore 5 = .ok (.ifCond .eq 7, 3) := by decide +kernel
theorem dX12_restore_8 : decode cX12_restore 8 = .ok (.iconst 0, 1) := by decide +kernel
theorem dX12_restore_9 : decode cX12_restore 9 = .ok (.goto 4, 3) := by decide +kernel
theorem dX12_restore_12 : decode cX12_restore 12 = .ok (.iconst 1, 1) := by decide +kernel
theorem dX12_restore_13 : decode cX12_restore 13 = .ok (.putfield 22, 3) := by decide +kernel
theorem dX12_restore_16 : decode cX12_restore 16 = .ok (.aload_n 0, 1) := by decide +kernel
theorem dX12_restore_17 : decode cX12_restore 17 = .ok (.getfield 22, 3) := by decide +kernel
theorem dX12_restore_20 : decode cX12_restore 20 = .ok (.ifCond .le 5, 3) := by decide +kernel
theorem dX12_restore_23 : decode cX12_restore 23 = .ok (.iconst 0, 1) := by decide +kernel
theorem dX12_restore_24 : decode cX12_restore 24 = .ok (.ireturn, 1) := by decide +kernel
theorem dX12_restore_25 : decode cX12_restore 25 = .ok (.aload_n 0, 1) := by decide +kernel
theorem dX12_restore_26 : decode cX12_restore 26 = .ok (.getfield 16, 3) := by decide +kernel
theorem dX12_restore_29 : decode cX12_restore 29 = .ok (.iconst 0, 1) := by decide +kernel
theorem dX12_restore_30 : decode cX12_restore 30 = .ok (.aload_n 0, 1) := by decide +kernel
theorem dX12_restore_31 : decode cX12_restore 31 = .ok (.getfield 7, 3) := by decide +kernel
theorem dX12_restore_34 : decode cX12_restore 34 = .ok (.iconst 0, 1) := by decide +kernel
theorem dX12_restore_35 : decode cX12_restore 35 = .ok (.invokestatic 72, 3) := by decide +kernel
theorem dX12_restore_38 : decode cX12_restore 38 = .ok (.aload_n 0, 1) := by decide +kernel
theorem dX12_restore_39 : decode cX12_restore 39 = .ok (.iconst 0, 1) := by decide +kernel
theorem dX12_restore_40 : decode cX12_restore 40 = .ok (.putfield 26, 3) := by decide +kernel
theorem dX12_restore_43 : decode cX12_restore 43 = .ok (.aload_n 0, 1) := by decide +kernel
theorem dX12_restore_44 : decode cX12_restore 44 = .ok (.getfield 7, 3) := by decide +kernel
theorem dX12_restore_47 : decode cX12_restore 47 = .ok (.iconst 0, 1) := by decide +kernel
theorem dX12_restore_48 : decode cX12_restore 48 = .ok (.iaload, 1) := by decide +kernel
theorem dX12_restore_49 : decode cX12_restore 49 = .ok (.ireturn, 1) := by decide +kernel
