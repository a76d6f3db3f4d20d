/-! ===== instructions: relays ===== -/
theorem dX8_hopsByBreadth_0 : decode cX8_hopsByBreadth 0 = .ok (.iconst 0, 1) := by decide +kernel
theorem dX8_hopsByBreadth_1 : decode cX8_hopsByBreadth 1 = .ok (.istore 4, 2) := by decide +kernel
theorem dX8_hopsByBreadth_3 : decode cX8_hopsByBreadth 3 = .ok (.iload 4, 2) := by decide +kernel
theorem dX8_hopsByBreadth_5 : decode cX8_hopsByBreadth 5 = .ok (.bipush 8, 2) := by decide +kernel
theorem dX8_hopsByBreadth_7 : decode cX8_hopsByBreadth 7 = .ok (.if_icmp .ge 17, 3) := by decide +kernel
theorem dX8_hopsByBreadth_10 : decode cX8_hopsByBreadth 10 = .ok (.aload_n 0, 1) := by decide +kernel
theorem dX8_hopsByBreadth_11 : decode cX8_hopsByBreadth 11 = .ok (.getfield 9, 3) := by decide +kernel
theorem dX8_hopsByBreadth_14 : decode cX8_hopsByBreadth 14 = .ok (.iload 4, 2) := by decide +kernel
theorem dX8_hopsByBreadth_16 : decode cX8_hopsByBreadth 16 = .ok (.iconst (-1), 1) := by decide +kernel
theorem dX8_hopsByBreadth_17 : decode cX8_hopsByBreadth 17 = .ok (.iastore, 1) := by decide +kernel
theorem dX8_hopsByBreadth_18 : decode cX8_hopsByBreadth 18 = .ok (.iinc 4 1, 3) := by decide +kernel
theorem dX8_hopsByBreadth_21 : decode cX8_hopsByBreadth 21 = .ok (.goto (-18), 3) := by decide +kernel
theorem dX8_hopsByBreadth_24 : decode cX8_hopsByBreadth 24 = .ok (.aload_n 0, 1) := by decide +kernel
theorem dX8_hopsByBreadth_25 : decode cX8_hopsByBreadth 25 = .ok (.getfield 9, 3) := by decide +kernel
theorem dX8_hopsByBreadth_28 : decode cX8_hopsByBreadth 28 = .ok (.iload_n 2, 1) := by decide +kernel
theorem dX8_hopsByBreadth_29 : decode cX8_hopsByBreadth 29 = .ok (.iconst 0, 1) := by decide +kernel
theorem dX8_hopsByBreadth_30 : decode cX8_hopsByBreadth 30 = .ok (.iastore, 1) := by decide +kernel
theorem dX8_hopsByBreadth_31 : decode cX8_hopsByBreadth 31 = .ok (.aload_n 0, 1) := by decide +kernel
theorem dX8_hopsByBreadth_32 : decode cX8_hopsByBreadth 32 = .ok (.getfield 15, 3) := by decide +kernel
theorem dX8_hopsByBreadth_35 : decode cX8_hopsByBreadth 35 = .ok (.iconst 0, 1) := by decide +kernel
theorem dX8_hopsByBreadth_36 : decode cX8_hopsByBreadth 36 = .ok (.iload_n 2, 1) := by decide +kernel
theorem dX8_hopsByBreadth_37 : decode cX8_hopsByBreadth 37 = .ok (.iastore, 1) := by decide +kernel
theorem dX8_hopsByBreadth_38 : decode cX8_hopsByBreadth 38 = .ok (.iconst 1, 1) := by decide +kernel
theorem dX8_hopsByBreadth_39 : decode cX8_hopsByBreadth 39 = .ok (.istore 4, 2) := by decide +kernel
theorem dX8_hopsByBreadth_41 : decode cX8_hopsByBreadth 41 = .ok (.iconst 0, 1) := by decide +kernel
theorem dX8_hopsByBreadth_42 : decode cX8_hopsByBreadth 42 = .ok (.istore 5, 2) := by decide +kernel
theorem dX8_hopsByBreadth_44 : decode cX8_hopsByBreadth 44 = .ok (.iload 5, 2) := by decide +kernel
theorem dX8_hopsByBreadth_46 : decode cX8_hopsByBreadth 46 = .ok (.iload 4, 2) := by decide +kernel
theorem dX8_hopsByBreadth_48 : decode cX8_hopsByBreadth 48 = .ok (.if_icmp .ge 108, 3) := by decide +kernel
theorem dX8_hopsByBreadth_51 : decode cX8_hopsByBreadth 51 = .ok (.iload 5, 2) := by decide +kernel
theorem dX8_hopsByBreadth_53 : decode cX8_hopsByBreadth 53 = .ok (.bipush 8, 2) := by decide +kernel
theorem dX8_hopsByBreadth_55 : decode cX8_hopsByBreadth 55 = .ok (.if_icmp .ge 101, 3) := by decide +kernel
theorem dX8_hopsByBreadth_58 : decode cX8_hopsByBreadth 58 = .ok (.aload_n 0, 1) := by decide +kernel
theorem dX8_hopsByBreadth_59 : decode cX8_hopsByBreadth 59 = .ok (.getfield 15, 3) := by decide +kernel
theorem dX8_hopsByBreadth_62 : decode cX8_hopsByBreadth 62 = .ok (.iload 5, 2) := by decide +kernel
theorem dX8_hopsByBreadth_64 : decode cX8_hopsByBreadth 64 = .ok (.iaload, 1) := by decide +kernel
theorem dX8_hopsByBreadth_65 : decode cX8_hopsByBreadth 65 = .ok (.istore 6, 2) := by decide +kernel
theorem dX8_hopsByBreadth_67 : decode cX8_hopsByBreadth 67 = .ok (.iconst 0, 1) := by decide +kernel
theorem dX8_hopsByBreadth_68 : decode cX8_hopsByBreadth 68 = .ok (.istore 7, 2) := by decide +kernel
theorem dX8_hopsByBreadth_70 : decode cX8_hopsByBreadth 70 = .ok (.iload 7, 2) := by decide +kernel
theorem dX8_hopsByBreadth_72 : decode cX8_hopsByBreadth 72 = .ok (.aload_n 1, 1) := by decide +kernel
theorem dX8_hopsByBreadth_73 : decode cX8_hopsByBreadth 73 = .ok (.getfield 18, 3) := by decide +kernel
theorem dX8_hopsByBreadth_76 : decode cX8_hopsByBreadth 76 = .ok (.if_icmp .ge 74, 3) := by decide +kernel
theorem dX8_hopsByBreadth_79 : decode cX8_hopsByBreadth 79 = .ok (.aload_n 0, 1) := by decide +kernel
theorem dX8_hopsByBreadth_80 : decode cX8_hopsByBreadth 80 = .ok (.getfield 9, 3) := by decide +kernel
theorem dX8_hopsByBreadth_83 : decode cX8_hopsByBreadth 83 = .ok (.iload 7, 2) := by decide +kernel
theorem dX8_hopsByBreadth_85 : decode cX8_hopsByBreadth 85 = .ok (.iaload, 1) := by decide +kernel
theorem dX8_hopsByBreadth_86 : decode cX8_hopsByBreadth 86 = .ok (.ifCond .ge 58, 3) := by decide +kernel
theorem dX8_hopsByBreadth_89 : decode cX8_hopsByBreadth 89 = .ok (.iload 4, 2) := by decide +kernel
theorem dX8_hopsByBreadth_91 : decode cX8_hopsByBreadth 91 = .ok (.bipush 8, 2) := by decide +kernel
theorem dX8_hopsByBreadth_93 : decode cX8_hopsByBreadth 93 = .ok (.if_icmp .ge 51, 3) := by decide +kernel
theorem dX8_hopsByBreadth_96 : decode cX8_hopsByBreadth 96 = .ok (.aload_n 1, 1) := by decide +kernel
theorem dX8_hopsByBreadth_97 : decode cX8_hopsByBreadth 97 = .ok (.getfield 24, 3) := by decide +kernel
theorem dX8_hopsByBreadth_100 : decode cX8_hopsByBreadth 100 = .ok (.iload 7, 2) := by decide +kernel
theorem dX8_hopsByBreadth_102 : decode cX8_hopsByBreadth 102 = .ok (.aaload, 1) := by decide +kernel
theorem dX8_hopsByBreadth_103 : decode cX8_hopsByBreadth 103 = .ok (.aload_n 1, 1) := by decide +kernel
theorem dX8_hopsByBreadth_104 : decode cX8_hopsByBreadth 104 = .ok (.getfield 24, 3) := by decide +kernel
theorem dX8_hopsByBreadth_107 : decode cX8_hopsByBreadth 107 = .ok (.iload 6, 2) := by decide +kernel
theorem dX8_hopsByBreadth_109 : decode cX8_hopsByBreadth 109 = .ok (.aaload, 1) := by decide +kernel
theorem dX8_hopsByBreadth_110 : decode cX8_hopsByBreadth 110 = .ok (.invokevirtual 28, 3) := by decide +kernel
theorem dX8_hopsByBreadth_113 : decode cX8_hopsByBreadth 113 = .ok (.ifCond .eq 31, 3) := by decide +kernel
theorem dX8_hopsByBreadth_116 : decode cX8_hopsByBreadth 116 = .ok (.aload_n 0, 1) := by decide +kernel
theorem dX8_hopsByBreadth_117 : decode cX8_hopsByBreadth 117 = .ok (.getfield 9, 3) := by decide +kernel
theorem dX8_hopsByBreadth_120 : decode cX8_hopsByBreadth 120 = .ok (.iload 7, 2) := by decide +kernel
theorem dX8_hopsByBreadth_122 : decode cX8_hopsByBreadth 122 = .ok (.aload_n 0, 1) := by decide +kernel
theorem dX8_hopsByBreadth_123 : decode cX8_hopsByBreadth 123 = .ok (.getfield 9, 3) := by decide +kernel
theorem dX8_hopsByBreadth_126 : decode cX8_hopsByBreadth 126 = .ok (.iload 6, 2) := by decide +kernel
theorem dX8_hopsByBreadth_128 : decode cX8_hopsByBreadth 128 = .ok (.iaload, 1) := by decide +kernel
theorem dX8_hopsByBreadth_129 : decode cX8_hopsByBreadth 129 = .ok (.iconst 1, 1) := by decide +kernel
theorem dX8_hopsByBreadth_130 : decode cX8_hopsByBreadth 130 = .ok (.iadd, 1) := by decide +kernel
theorem dX8_hopsByBreadth_131 : decode cX8_hopsByBreadth 131 = .ok (.iastore, 1) := by decide +kernel
theorem dX8_hopsByBreadth_132 : decode cX8_hopsByBreadth 132 = .ok (.aload_n 0, 1) := by decide +kernel
theorem dX8_hopsByBreadth_133 : decode cX8_hopsByBreadth 133 = .ok (.getfield 15, 3) := by decide +kernel
theorem dX8_hopsByBreadth_136 : decode cX8_hopsByBreadth 136 = .ok (.iload 4, 2) := by decide +kernel
theorem dX8_hopsByBreadth_138 : decode cX8_hopsByBreadth 138 = .ok (.iload 7, 2) := by decide +kernel
theorem dX8_hopsByBreadth_140 : decode cX8_hopsByBreadth 140 = .ok (.iastore, 1) := by decide +kernel
theorem dX8_hopsByBreadth_141 : decode cX8_hopsByBreadth 141 = .ok (.iinc 4 1, 3) := by decide +kernel
theorem dX8_hopsByBreadth_144 : decode cX8_hopsByBreadth 144 = .ok (.iinc 7 1, 3) := by decide +kernel
theorem dX8_hopsByBreadth_147 : decode cX8_hopsByBreadth 147 = .ok (.goto (-77), 3) := by decide +kernel
theorem dX8_hopsByBreadth_150 : decode cX8_hopsByBreadth 150 = .ok (.iinc 5 1, 3) := by decide +kernel
theorem dX8_hopsByBreadth_153 : decode cX8_hopsByBreadth 153 = .ok (.goto (-109), 3) := by decide +kernel
theorem dX8_hopsByBreadth_156 : decode cX8_hopsByBreadth 156 = .ok (.aload_n 0, 1) := by decide +kernel
theorem dX8_hopsByBreadth_157 : decode cX8_hopsByBreadth 157 = .ok (.getfield 9, 3) := by decide +kernel
theorem dX8_hopsByBreadth_160 : decode cX8_hopsByBreadth 160 = .ok (.iload_n 3, 1) := by decide +kernel
theorem dX8_hopsByBreadth_161 : decode cX8_hopsByBreadth 161 = .ok (.iaload, 1) := by decide +kernel
theorem dX8_hopsByBreadth_162 : decode cX8_hopsByBreadth 162 = .ok (.ireturn, 1) := by decide +kernel
theorem dX8_extended_0 : decode cX8_extended 0 = .ok (.iload_n 2, 1) := by decide +kernel
theorem dX8_extended_1 : decode cX8_extended 1 = .ok (.istore_n 3, 1) := by decide +kernel
theorem dX8_extended_2 : decode cX8_extended 2 = .ok (.iconst 0, 1) := by decide +kernel
theorem dX8_extended_3 : decode cX8_extended 3 = .ok (.istore 4, 2) := by decide +kernel
theorem dX8_extended_5 : decode cX8_extended 5 = .ok (.iload 4, 2) := by decide +kernel
theorem dX8_extended_7 : decode cX8_extended 7 = .ok (.aload_n 1, 1) := by decide +kernel
theorem dX8_extended_8 : decode cX8_extended 8 = .ok (.getfield 18, 3) := by decide +kernel
theorem dX8_extended_11 : decode cX8_extended 11 = .ok (.if_icmp .ge 63, 3) := by decide +kernel
theorem dX8_extended_14 : decode cX8_extended 14 = .ok (.iconst 0, 1) := by decide +kernel
theorem dX8_extended_15 : decode cX8_extended 15 = .ok (.istore 5, 2) := by decide +kernel
theorem dX8_extended_17 : decode cX8_extended 17 = .ok (.iload 5, 2) := by decide +kernel
theorem dX8_extended_19 : decode cX8_extended 19 = .ok (.aload_n 1, 1) := by decide +kernel
theorem dX8_extended_20 : decode cX8_extended 20 = .ok (.getfield 18, 3) := by decide +kernel
theorem dX8_extended_23 : decode cX8_extended 23 = .ok (.if_icmp .ge 45, 3) := by decide +kernel
theorem dX8_extended_26 : decode cX8_extended 26 = .ok (.iload_n 2, 1) := by decide +kernel
theorem dX8_extended_27 : decode cX8_extended 27 = .ok (.iconst 1, 1) := by decide +kernel
theorem dX8_extended_28 : decode cX8_extended 28 = .ok (.iload 4, 2) := by decide +kernel
theorem dX8_extended_30 : decode cX8_extended 30 = .ok (.ishl, 1) := by decide +kernel
theorem dX8_extended_31 : decode cX8_extended 31 = .ok (.iand, 1) := by decide +kernel
theorem dX8_extended_32 : decode cX8_extended 32 = .ok (.ifCond .eq 36, 3) := by decide +kernel
theorem dX8_extended_35 : decode cX8_extended 35 = .ok (.aload_n 1, 1) := by decide +kernel
theorem dX8_extended_36 : decode cX8_extended 36 = .ok (.getfield 24, 3) := by decide +kernel
theorem dX8_extended_39 : decode cX8_extended 39 = .ok (.iload 5, 2) := by decide +kernel
theorem dX8_extended_41 : decode cX8_extended 41 = .ok (.aaload, 1) := by decide +kernel
theorem dX8_extended_42 : decode cX8_extended 42 = .ok (.aload_n 1, 1) := by decide +kernel
theorem dX8_extended_43 : decode cX8_extended 43 = .ok (.getfield 24, 3) := by decide +kernel
theorem dX8_extended_46 : decode cX8_extended 46 = .ok (.iload 4, 2) := by decide +kernel
theorem dX8_extended_48 : decode cX8_extended 48 = .ok (.aaload, 1) := by decide +kernel
theorem dX8_extended_49 : decode cX8_extended 49 = .ok (.invokevirtual 28, 3) := by decide +kernel
theorem dX8_extended_52 : decode cX8_extended 52 = .ok (.ifCond .eq 10, 3) := by decide +kernel
theorem dX8_extended_55 : decode cX8_extended 55 = .ok (.iload_n 3, 1) := by decide +kernel
theorem dX8_extended_56 : decode cX8_extended 56 = .ok (.iconst 1, 1) := by decide +kernel
theorem dX8_extended_57 : decode cX8_extended 57 = .ok (.iload 5, 2) := by decide +kernel
theorem dX8_extended_59 : decode cX8_extended 59 = .ok (.ishl, 1) := by decide +kernel
theorem dX8_extended_60 : decode cX8_extended 60 = .ok (.ior, 1) := by decide +kernel
theorem dX8_extended_61 : decode cX8_extended 61 = .ok (.istore_n 3, 1) := by decide +kernel
theorem dX8_extended_62 : decode cX8_extended 62 = .ok (.iinc 5 1, 3) := by decide +kernel
theorem dX8_extended_65 : decode cX8_extended 65 = .ok (.goto (-48), 3) := by decide +kernel
theorem dX8_extended_68 : decode cX8_extended 68 = .ok (.iinc 4 1, 3) := by decide +kernel
theorem dX8_extended_71 : decode cX8_extended 71 = .ok (.goto (-66), 3) := by decide +kernel
theorem dX8_extended_74 : decode cX8_extended 74 = .ok (.iload_n 3, 1) := by decide +kernel
theorem dX8_extended_75 : decode cX8_extended 75 = .ok (.ireturn, 1) := by decide +kernel
theorem dX8_hopsOfSets_0 : decode cX8_hopsOfSets 0 = .ok (.iconst 1, 1) := by decide +kernel
theorem dX8_hopsOfSets_1 : decode cX8_hopsOfSets 1 = .ok (.iload_n 2, 1) := by decide +kernel
theorem dX8_hopsOfSets_2 : decode cX8_hopsOfSets 2 = .ok (.ishl, 1) := by decide +kernel
theorem dX8_hopsOfSets_3 : decode cX8_hopsOfSets 3 = .ok (.istore 4, 2) := by decide +kernel
theorem dX8_hopsOfSets_5 : decode cX8_hopsOfSets 5 = .ok (.iconst 0, 1) := by decide +kernel
theorem dX8_hopsOfSets_6 : decode cX8_hopsOfSets 6 = .ok (.istore 5, 2) := by decide +kernel
theorem dX8_hopsOfSets_8 : decode cX8_hopsOfSets 8 = .ok (.iload 5, 2) := by decide +kernel
theorem dX8_hopsOfSets_10 : decode cX8_hopsOfSets 10 = .ok (.bipush 8, 2) := by decide +kernel
theorem dX8_hopsOfSets_12 : decode cX8_hopsOfSets 12 = .ok (.if_icmp .ge 30, 3) := by decide +kernel
theorem dX8_hopsOfSets_15 : decode cX8_hopsOfSets 15 = .ok (.iload 4, 2) := by decide +kernel
theorem dX8_hopsOfSets_17 : decode cX8_hopsOfSets 17 = .ok (.iconst 1, 1) := by decide +kernel
theorem dX8_hopsOfSets_18 : decode cX8_hopsOfSets 18 = .ok (.iload_n 3, 1) := by decide +kernel
theorem dX8_hopsOfSets_19 : decode cX8_hopsOfSets 19 = .ok (.ishl, 1) := by decide +kernel
theorem dX8_hopsOfSets_20 : decode cX8_hopsOfSets 20 = .ok (.iand, 1) := by decide +kernel
theorem dX8_hopsOfSets_21 : decode cX8_hopsOfSets 21 = .ok (.ifCond .eq 6, 3) := by decide +kernel
theorem dX8_hopsOfSets_24 : decode cX8_hopsOfSets 24 = .ok (.iload 5, 2) := by decide +kernel
theorem dX8_hopsOfSets_26 : decode cX8_hopsOfSets 26 = .ok (.ireturn, 1) := by decide +kernel
theorem dX8_hopsOfSets_27 : decode cX8_hopsOfSets 27 = .ok (.aload_n 0, 1) := by decide +kernel
theorem dX8_hopsOfSets_28 : decode cX8_hopsOfSets 28 = .ok (.aload_n 1, 1) := by decide +kernel
theorem dX8_hopsOfSets_29 : decode cX8_hopsOfSets 29 = .ok (.iload 4, 2) := by decide +kernel
theorem dX8_hopsOfSets_31 : decode cX8_hopsOfSets 31 = .ok (.invokevirtual 34, 3) := by decide +kernel
theorem dX8_hopsOfSets_34 : decode cX8_hopsOfSets 34 = .ok (.istore 4, 2) := by decide +kernel
theorem dX8_hopsOfSets_36 : decode cX8_hopsOfSets 36 = .ok (.iinc 5 1, 3) := by decide +kernel
theorem dX8_hopsOfSets_39 : decode cX8_hopsOfSets 39 = .ok (.goto (-31), 3) := by decide +kernel
theorem dX8_hopsOfSets_42 : decode cX8_hopsOfSets 42 = .ok (.iconst (-1), 1) := by decide +kernel
theorem dX8_hopsOfSets_43 : decode cX8_hopsOfSets 43 = .ok (.ireturn, 1) := by decide +kernel
theorem dJ6_bitCount_0f7a4_0 : decode cJ6_bitCount_0f7a4 0 = .ok (.iload_n 0, 1) := by decide +kernel
theorem dJ6_bitCount_0f7a4_1 : decode cJ6_bitCount_0f7a4 1 = .ok (.iload_n 0, 1) := by decide +kernel
theorem dJ6_bitCount_0f7a4_2 : decode cJ6_bitCount_0f7a4 2 = .ok (.iconst 1, 1) := by decide +kernel
theorem dJ6_bitCount_0f7a4_3 : decode cJ6_bitCount_0f7a4 3 = .ok (.iushr, 1) := by decide +kernel
theorem dJ6_bitCount_0f7a4_4 : decode cJ6_bitCount_0f7a4 4 = .ok (.ldc_w 265, 3) := by decide +kernel
theorem dJ6_bitCount_0f7a4_7 : decode cJ6_bitCount_0f7a4 7 = .ok (.iand, 1) := by decide +kernel
theorem dJ6_bitCount_0f7a4_8 : decode cJ6_bitCount_0f7a4 8 = .ok (.isub, 1) := by decide +kernel
theorem dJ6_bitCount_0f7a4_9 : decode cJ6_bitCount_0f7a4 9 = .ok (.istore_n 0, 1) := by decide +kernel
theorem dJ6_bitCount_0f7a4_10 : decode cJ6_bitCount_0f7a4 10 = .ok (.iload_n 0, 1) := by decide +kernel
theorem dJ6_bitCount_0f7a4_11 : decode cJ6_bitCount_0f7a4 11 = .ok (.ldc_w 266, 3) := by decide +kernel
theorem dJ6_bitCount_0f7a4_14 : decode cJ6_bitCount_0f7a4 14 = .ok (.iand, 1) := by decide +kernel
theorem dJ6_bitCount_0f7a4_15 : decode cJ6_bitCount_0f7a4 15 = .ok (.iload_n 0, 1) := by decide +kernel
theorem dJ6_bitCount_0f7a4_16 : decode cJ6_bitCount_0f7a4 16 = .ok (.iconst 2, 1) := by decide +kernel
theorem dJ6_bitCount_0f7a4_17 : decode cJ6_bitCount_0f7a4 17 = .ok (.iushr, 1) := by decide +kernel
theorem dJ6_bitCount_0f7a4_18 : decode cJ6_bitCount_0f7a4 18 = .ok (.ldc_w 266, 3) := by decide +kernel
theorem dJ6_bitCount_0f7a4_21 : decode cJ6_bitCount_0f7a4 21 = .ok (.iand, 1) := by decide +kernel
theorem dJ6_bitCount_0f7a4_22 : decode cJ6_bitCount_0f7a4 22 = .ok (.iadd, 1) := by decide +kernel
theorem dJ6_bitCount_0f7a4_23 : decode cJ6_bitCount_0f7a4 23 = .ok (.istore_n 0, 1) := by decide +kernel
theorem dJ6_bitCount_0f7a4_24 : decode cJ6_bitCount_0f7a4 24 = .ok (.iload_n 0, 1) := by decide +kernel
theorem dJ6_bitCount_0f7a4_25 : decode cJ6_bitCount_0f7a4 25 = .ok (.iload_n 0, 1) := by decide +kernel
theorem dJ6_bitCount_0f7a4_26 : decode cJ6_bitCount_0f7a4 26 = .ok (.iconst 4, 1) := by decide +kernel
theorem dJ6_bitCount_0f7a4_27 : decode cJ6_bitCount_0f7a4 27 = .ok (.iushr, 1) := by decide +kernel
theorem dJ6_bitCount_0f7a4_28 : decode cJ6_bitCount_0f7a4 28 = .ok (.iadd, 1) := by decide +kernel
theorem dJ6_bitCount_0f7a4_29 : decode cJ6_bitCount_0f7a4 29 = .ok (.ldc_w 267, 3) := by decide +kernel
theorem dJ6_bitCount_0f7a4_32 : decode cJ6_bitCount_0f7a4 32 = .ok (.iand, 1) := by decide +kernel
theorem dJ6_bitCount_0f7a4_33 : decode cJ6_bitCount_0f7a4 33 = .ok (.istore_n 0, 1) := by decide +kernel
theorem dJ6_bitCount_0f7a4_34 : decode cJ6_bitCount_0f7a4 34 = .ok (.iload_n 0, 1) := by decide +kernel
theorem dJ6_bitCount_0f7a4_35 : decode cJ6_bitCount_0f7a4 35 = .ok (.iload_n 0, 1) := by decide +kernel
theorem dJ6_bitCount_0f7a4_36 : decode cJ6_bitCount_0f7a4 36 = .ok (.bipush 8, 2) := by decide +kernel
theorem dJ6_bitCount_0f7a4_38 : decode cJ6_bitCount_0f7a4 38 = .ok (.iushr, 1) := by decide +kernel
theorem dJ6_bitCount_0f7a4_39 : decode cJ6_bitCount_0f7a4 39 = .ok (.iadd, 1) := by decide +kernel
theorem dJ6_bitCount_0f7a4_40 : decode cJ6_bitCount_0f7a4 40 = .ok (.istore_n 0, 1) := by decide +kernel
theorem dJ6_bitCount_0f7a4_41 : decode cJ6_bitCount_0f7a4 41 = .ok (.iload_n 0, 1) := by decide +kernel
theorem dJ6_bitCount_0f7a4_42 : decode cJ6_bitCount_0f7a4 42 = .ok (.iload_n 0, 1) := by decide +kernel
theorem dJ6_bitCount_0f7a4_43 : decode cJ6_bitCount_0f7a4 43 = .ok (.bipush 16, 2) := by decide +kernel
theorem dJ6_bitCount_0f7a4_45 : decode cJ6_bitCount_0f7a4 45 = .ok (.iushr, 1) := by decide +kernel
theorem dJ6_bitCount_0f7a4_46 : decode cJ6_bitCount_0f7a4 46 = .ok (.iadd, 1) := by decide +kernel
theorem dJ6_bitCount_0f7a4_47 : decode cJ6_bitCount_0f7a4 47 = .ok (.istore_n 0, 1) := by decide +kernel
theorem dJ6_bitCount_0f7a4_48 : decode cJ6_bitCount_0f7a4 48 = .ok (.iload_n 0, 1) := by decide +kernel
theorem dJ6_bitCount_0f7a4_49 : decode cJ6_bitCount_0f7a4 49 = .ok (.bipush 63, 2) := by decide +kernel
theorem dJ6_bitCount_0f7a4_51 : decode cJ6_bitCount_0f7a4 51 = .ok (.iand, 1) := by decide +kernel
theorem dJ6_bitCount_0f7a4_52 : decode cJ6_bitCount_0f7a4 52 = .ok (.ireturn, 1) := by decide +kernel
theorem dX8_countReached_0 : decode cX8_countReached 0 = .ok (.iconst 1, 1) := by decide +kernel
theorem dX8_countReached_1 : decode cX8_countReached 1 = .ok (.iload_n 2, 1) := by decide +kernel
theorem dX8_countReached_2 : decode cX8_countReached 2 = .ok (.ishl, 1) := by decide +kernel
theorem dX8_countReached_3 : decode cX8_countReached 3 = .ok (.istore_n 3, 1) := by decide +kernel
theorem dX8_countReached_4 : decode cX8_countReached 4 = .ok (.iconst 0, 1) := by decide +kernel
theorem dX8_countReached_5 : decode cX8_countReached 5 = .ok (.istore 4, 2) := by decide +kernel
theorem dX8_countReached_7 : decode cX8_countReached 7 = .ok (.iload 4, 2) := by decide +kernel
theorem dX8_countReached_9 : decode cX8_countReached 9 = .ok (.bipush 8, 2) := by decide +kernel
theorem dX8_countReached_11 : decode cX8_countReached 11 = .ok (.if_icmp .ge 16, 3) := by decide +kernel
theorem dX8_countReached_14 : decode cX8_countReached 14 = .ok (.aload_n 0, 1) := by decide +kernel
theorem dX8_countReached_15 : decode cX8_countReached 15 = .ok (.aload_n 1, 1) := by decide +kernel
theorem dX8_countReached_16 : decode cX8_countReached 16 = .ok (.iload_n 3, 1) := by decide +kernel
theorem dX8_countReached_17 : decode cX8_countReached 17 = .ok (.invokevirtual 34, 3) := by decide +kernel
theorem dX8_countReached_20 : decode cX8_countReached 20 = .ok (.istore_n 3, 1) := by decide +kernel
theorem dX8_countReached_21 : decode cX8_countReached 21 = .ok (.iinc 4 1, 3) := by decide +kernel
theorem dX8_countReached_24 : decode cX8_countReached 24 = .ok (.goto (-17), 3) := by decide +kernel
theorem dX8_countReached_27 : decode cX8_countReached 27 = .ok (.iload_n 3, 1) := by decide +kernel
theorem dX8_countReached_28 : decode cX8_countReached 28 = .ok (.invokestatic 38, 3) := by decide +kernel
theorem dX8_countReached_31 : decode cX8_countReached 31 = .ok (.ireturn, 1) := by decide +kernel
