/-! ===== instructions: programs ===== -/
theorem dJ0_coder_7d493_0 : decode cJ0_coder_7d493 0 = .ok (.getstatic 38, 3) := by decide +kernel
theorem dJ0_coder_7d493_3 : decode cJ0_coder_7d493 3 = .ok (.ifCond .eq 10, 3) := by decide +kernel
theorem dJ0_coder_7d493_6 : decode cJ0_coder_7d493 6 = .ok (.aload_n 0, 1) := by decide +kernel
theorem dJ0_coder_7d493_7 : decode cJ0_coder_7d493 7 = .ok (.getfield 15, 3) := by decide +kernel
theorem dJ0_coder_7d493_10 : decode cJ0_coder_7d493 10 = .ok (.goto 4, 3) := by decide +kernel
theorem dJ0_coder_7d493_13 : decode cJ0_coder_7d493 13 = .ok (.iconst 1, 1) := by decide +kernel
theorem dJ0_coder_7d493_14 : decode cJ0_coder_7d493 14 = .ok (.ireturn, 1) := by decide +kernel
theorem dJ0_length_8abf5_0 : decode cJ0_length_8abf5 0 = .ok (.aload_n 0, 1) := by decide +kernel
theorem dJ0_length_8abf5_1 : decode cJ0_length_8abf5 1 = .ok (.getfield 9, 3) := by decide +kernel
theorem dJ0_length_8abf5_4 : decode cJ0_length_8abf5 4 = .ok (.arraylength, 1) := by decide +kernel
theorem dJ0_length_8abf5_5 : decode cJ0_length_8abf5 5 = .ok (.aload_n 0, 1) := by decide +kernel
theorem dJ0_length_8abf5_6 : decode cJ0_length_8abf5 6 = .ok (.invokevirtual 335, 3) := by decide +kernel
theorem dJ0_length_8abf5_9 : decode cJ0_length_8abf5 9 = .ok (.ishr, 1) := by decide +kernel
theorem dJ0_length_8abf5_10 : decode cJ0_length_8abf5 10 = .ok (.ireturn, 1) := by decide +kernel
theorem dJ0_isLatin1_aae02_0 : decode cJ0_isLatin1_aae02 0 = .ok (.getstatic 38, 3) := by decide +kernel
theorem dJ0_isLatin1_aae02_3 : decode cJ0_isLatin1_aae02 3 = .ok (.ifCond .eq 14, 3) := by decide +kernel
theorem dJ0_isLatin1_aae02_6 : decode cJ0_isLatin1_aae02 6 = .ok (.aload_n 0, 1) := by decide +kernel
theorem dJ0_isLatin1_aae02_7 : decode cJ0_isLatin1_aae02 7 = .ok (.getfield 15, 3) := by decide +kernel
theorem dJ0_isLatin1_aae02_10 : decode cJ0_isLatin1_aae02 10 = .ok (.ifCond .ne 7, 3) := by decide +kernel
theorem dJ0_isLatin1_aae02_13 : decode cJ0_isLatin1_aae02 13 = .ok (.iconst 1, 1) := by decide +kernel
theorem dJ0_isLatin1_aae02_14 : decode cJ0_isLatin1_aae02 14 = .ok (.goto 4, 3) := by decide +kernel
theorem dJ0_isLatin1_aae02_17 : decode cJ0_isLatin1_aae02 17 = .ok (.iconst 0, 1) := by decide +kernel
theorem dJ0_isLatin1_aae02_18 : decode cJ0_isLatin1_aae02 18 = .ok (.ireturn, 1) := by decide +kernel
theorem dJ1_charAt_3b067_0 : decode cJ1_charAt_3b067 0 = .ok (.iload_n 1, 1) := by decide +kernel
theorem dJ1_charAt_3b067_1 : decode cJ1_charAt_3b067 1 = .ok (.aload_n 0, 1) := by decide +kernel
theorem dJ1_charAt_3b067_2 : decode cJ1_charAt_3b067 2 = .ok (.arraylength, 1) := by decide +kernel
theorem dJ1_charAt_3b067_3 : decode cJ1_charAt_3b067 3 = .ok (.invokestatic 9, 3) := by decide +kernel
theorem dJ1_charAt_3b067_6 : decode cJ1_charAt_3b067 6 = .ok (.aload_n 0, 1) := by decide +kernel
theorem dJ1_charAt_3b067_7 : decode cJ1_charAt_3b067 7 = .ok (.iload_n 1, 1) := by decide +kernel
theorem dJ1_charAt_3b067_8 : decode cJ1_charAt_3b067 8 = .ok (.baload, 1) := by decide +kernel
theorem dJ1_charAt_3b067_9 : decode cJ1_charAt_3b067 9 = .ok (.sipush 255, 3) := by decide +kernel
theorem dJ1_charAt_3b067_12 : decode cJ1_charAt_3b067 12 = .ok (.iand, 1) := by decide +kernel
theorem dJ1_charAt_3b067_13 : decode cJ1_charAt_3b067 13 = .ok (.i2c, 1) := by decide +kernel
theorem dJ1_charAt_3b067_14 : decode cJ1_charAt_3b067 14 = .ok (.ireturn, 1) := by decide +kernel
theorem dJ0_charAt_5068e_0 : decode cJ0_charAt_5068e 0 = .ok (.aload_n 0, 1) := by decide +kernel
theorem dJ0_charAt_5068e_1 : decode cJ0_charAt_5068e 1 = .ok (.invokevirtual 492, 3) := by decide +kernel
theorem dJ0_charAt_5068e_4 : decode cJ0_charAt_5068e 4 = .ok (.ifCond .eq 12, 3) := by decide +kernel
theorem dJ0_charAt_5068e_7 : decode cJ0_charAt_5068e 7 = .ok (.aload_n 0, 1) := by decide +kernel
theorem dJ0_charAt_5068e_8 : decode cJ0_charAt_5068e 8 = .ok (.getfield 9, 3) := by decide +kernel
theorem dJ0_charAt_5068e_11 : decode cJ0_charAt_5068e 11 = .ok (.iload_n 1, 1) := by decide +kernel
theorem dJ0_charAt_5068e_12 : decode cJ0_charAt_5068e 12 = .ok (.invokestatic 495, 3) := by decide +kernel
theorem dJ0_charAt_5068e_15 : decode cJ0_charAt_5068e 15 = .ok (.ireturn, 1) := by decide +kernel
theorem dJ0_charAt_5068e_16 : decode cJ0_charAt_5068e 16 = .ok (.aload_n 0, 1) := by decide +kernel
theorem dJ0_charAt_5068e_17 : decode cJ0_charAt_5068e 17 = .ok (.getfield 9, 3) := by decide +kernel
theorem dJ0_charAt_5068e_20 : decode cJ0_charAt_5068e 20 = .ok (.iload_n 1, 1) := by decide +kernel
theorem dJ0_charAt_5068e_21 : decode cJ0_charAt_5068e 21 = .ok (.invokestatic 498, 3) := by decide +kernel
theorem dJ0_charAt_5068e_24 : decode cJ0_charAt_5068e 24 = .ok (.ireturn, 1) := by decide +kernel
theorem dX1_begin_0 : decode cX1_begin 0 = .ok (.aload_n 0, 1) := by decide +kernel
theorem dX1_begin_1 : decode cX1_begin 1 = .ok (.aload_n 1, 1) := by decide +kernel
theorem dX1_begin_2 : decode cX1_begin 2 = .ok (.putfield 15, 3) := by decide +kernel
theorem dX1_begin_5 : decode cX1_begin 5 = .ok (.aload_n 0, 1) := by decide +kernel
theorem dX1_begin_6 : decode cX1_begin 6 = .ok (.iconst 0, 1) := by decide +kernel
theorem dX1_begin_7 : decode cX1_begin 7 = .ok (.putfield 24, 3) := by decide +kernel
theorem dX1_begin_10 : decode cX1_begin 10 = .ok (.return_, 1) := by decide +kernel
theorem dX1_take_0 : decode cX1_take 0 = .ok (.aload_n 0, 1) := by decide +kernel
theorem dX1_take_1 : decode cX1_take 1 = .ok (.getfield 24, 3) := by decide +kernel
theorem dX1_take_4 : decode cX1_take 4 = .ok (.bipush 6, 2) := by decide +kernel
theorem dX1_take_6 : decode cX1_take 6 = .ok (.if_icmp .ge 23, 3) := by decide +kernel
theorem dX1_take_9 : decode cX1_take 9 = .ok (.aload_n 0, 1) := by decide +kernel
theorem dX1_take_10 : decode cX1_take 10 = .ok (.getfield 20, 3) := by decide +kernel
theorem dX1_take_13 : decode cX1_take 13 = .ok (.aload_n 0, 1) := by decide +kernel
theorem dX1_take_14 : decode cX1_take 14 = .ok (.getfield 24, 3) := by decide +kernel
theorem dX1_take_17 : decode cX1_take 17 = .ok (.iload_n 1, 1) := by decide +kernel
theorem dX1_take_18 : decode cX1_take 18 = .ok (.iastore, 1) := by decide +kernel
theorem dX1_take_19 : decode cX1_take 19 = .ok (.aload_n 0, 1) := by decide +kernel
theorem dX1_take_20 : decode cX1_take 20 = .ok (.dup, 1) := by decide +kernel
theorem dX1_take_21 : decode cX1_take 21 = .ok (.getfield 24, 3) := by decide +kernel
theorem dX1_take_24 : decode cX1_take 24 = .ok (.iconst 1, 1) := by decide +kernel
theorem dX1_take_25 : decode cX1_take 25 = .ok (.iadd, 1) := by decide +kernel
theorem dX1_take_26 : decode cX1_take 26 = .ok (.putfield 24, 3) := by decide +kernel
theorem dX1_take_29 : decode cX1_take 29 = .ok (.return_, 1) := by decide +kernel
theorem dX1_faultOn_0 : decode cX1_faultOn 0 = .ok (.getstatic 28, 3) := by decide +kernel
theorem dX1_faultOn_3 : decode cX1_faultOn 3 = .ok (.aload_n 0, 1) := by decide +kernel
theorem dX1_faultOn_4 : decode cX1_faultOn 4 = .ok (.getfield 15, 3) := by decide +kernel
theorem dX1_faultOn_7 : decode cX1_faultOn 7 = .ok (.invokevirtual 33, 3) := by decide +kernel
theorem dX1_faultOn_10 : decode cX1_faultOn 10 = .ok (.iaload, 1) := by decide +kernel
theorem dX1_faultOn_11 : decode cX1_faultOn 11 = .ok (.tableswitch 200 1 9 #[49, 91, 114, 131, 148, 162, 176, 190, 190], 49) := by decide +kernel
theorem dX1_faultOn_60 : decode cX1_faultOn 60 = .ok (.aload_n 1, 1) := by decide +kernel
theorem dX1_faultOn_61 : decode cX1_faultOn 61 = .ok (.aload_n 0, 1) := by decide +kernel
theorem dX1_faultOn_62 : decode cX1_faultOn 62 = .ok (.getfield 20, 3) := by decide +kernel
theorem dX1_faultOn_65 : decode cX1_faultOn 65 = .ok (.iconst 0, 1) := by decide +kernel
theorem dX1_faultOn_66 : decode cX1_faultOn 66 = .ok (.iaload, 1) := by decide +kernel
theorem dX1_faultOn_67 : decode cX1_faultOn 67 = .ok (.i2c, 1) := by decide +kernel
theorem dX1_faultOn_68 : decode cX1_faultOn 68 = .ok (.aload_n 0, 1) := by decide +kernel
theorem dX1_faultOn_69 : decode cX1_faultOn 69 = .ok (.getfield 20, 3) := by decide +kernel
theorem dX1_faultOn_72 : decode cX1_faultOn 72 = .ok (.iconst 1, 1) := by decide +kernel
theorem dX1_faultOn_73 : decode cX1_faultOn 73 = .ok (.iaload, 1) := by decide +kernel
theorem dX1_faultOn_74 : decode cX1_faultOn 74 = .ok (.aload_n 0, 1) := by decide +kernel
theorem dX1_faultOn_75 : decode cX1_faultOn 75 = .ok (.getfield 20, 3) := by decide +kernel
theorem dX1_faultOn_78 : decode cX1_faultOn 78 = .ok (.iconst 2, 1) := by decide +kernel
theorem dX1_faultOn_79 : decode cX1_faultOn 79 = .ok (.iaload, 1) := by decide +kernel
theorem dX1_faultOn_80 : decode cX1_faultOn 80 = .ok (.aload_n 0, 1) := by decide +kernel
theorem dX1_faultOn_81 : decode cX1_faultOn 81 = .ok (.getfield 20, 3) := by decide +kernel
theorem dX1_faultOn_84 : decode cX1_faultOn 84 = .ok (.iconst 3, 1) := by decide +kernel
theorem dX1_faultOn_85 : decode cX1_faultOn 85 = .ok (.iaload, 1) := by decide +kernel
theorem dX1_faultOn_86 : decode cX1_faultOn 86 = .ok (.aload_n 0, 1) := by decide +kernel
theorem dX1_faultOn_87 : decode cX1_faultOn 87 = .ok (.getfield 20, 3) := by decide +kernel
theorem dX1_faultOn_90 : decode cX1_faultOn 90 = .ok (.iconst 4, 1) := by decide +kernel
theorem dX1_faultOn_91 : decode cX1_faultOn 91 = .ok (.iaload, 1) := by decide +kernel
theorem dX1_faultOn_92 : decode cX1_faultOn 92 = .ok (.aload_n 0, 1) := by decide +kernel
theorem dX1_faultOn_93 : decode cX1_faultOn 93 = .ok (.getfield 20, 3) := by decide +kernel
theorem dX1_faultOn_96 : decode cX1_faultOn 96 = .ok (.iconst 5, 1) := by decide +kernel
theorem dX1_faultOn_97 : decode cX1_faultOn 97 = .ok (.iaload, 1) := by decide +kernel
theorem dX1_faultOn_98 : decode cX1_faultOn 98 = .ok (.invokevirtual 37, 3) := by decide +kernel
theorem dX1_faultOn_101 : decode cX1_faultOn 101 = .ok (.areturn, 1) := by decide +kernel
theorem dX1_faultOn_102 : decode cX1_faultOn 102 = .ok (.aload_n 1, 1) := by decide +kernel
theorem dX1_faultOn_103 : decode cX1_faultOn 103 = .ok (.aload_n 0, 1) := by decide +kernel
theorem dX1_faultOn_104 : decode cX1_faultOn 104 = .ok (.getfield 20, 3) := by decide +kernel
theorem dX1_faultOn_107 : decode cX1_faultOn 107 = .ok (.iconst 0, 1) := by decide +kernel
theorem dX1_faultOn_108 : decode cX1_faultOn 108 = .ok (.iaload, 1) := by decide +kernel
theorem dX1_faultOn_109 : decode cX1_faultOn 109 = .ok (.aload_n 0, 1) := by decide +kernel
theorem dX1_faultOn_110 : decode cX1_faultOn 110 = .ok (.getfield 20, 3) := by decide +kernel
theorem dX1_faultOn_113 : decode cX1_faultOn 113 = .ok (.iconst 1, 1) := by decide +kernel
theorem dX1_faultOn_114 : decode cX1_faultOn 114 = .ok (.iaload, 1) := by decide +kernel
theorem dX1_faultOn_115 : decode cX1_faultOn 115 = .ok (.aload_n 0, 1) := by decide +kernel
theorem dX1_faultOn_116 : decode cX1_faultOn 116 = .ok (.getfield 20, 3) := by decide +kernel
theorem dX1_faultOn_119 : decode cX1_faultOn 119 = .ok (.iconst 2, 1) := by decide +kernel
theorem dX1_faultOn_120 : decode cX1_faultOn 120 = .ok (.iaload, 1) := by decide +kernel
theorem dX1_faultOn_121 : decode cX1_faultOn 121 = .ok (.invokevirtual 43, 3) := by decide +kernel
theorem dX1_faultOn_124 : decode cX1_faultOn 124 = .ok (.areturn, 1) := by decide +kernel
theorem dX1_faultOn_125 : decode cX1_faultOn 125 = .ok (.aload_n 1, 1) := by decide +kernel
theorem dX1_faultOn_126 : decode cX1_faultOn 126 = .ok (.aload_n 0, 1) := by decide +kernel
theorem dX1_faultOn_127 : decode cX1_faultOn 127 = .ok (.getfield 20, 3) := by decide +kernel
theorem dX1_faultOn_130 : decode cX1_faultOn 130 = .ok (.iconst 0, 1) := by decide +kernel
theorem dX1_faultOn_131 : decode cX1_faultOn 131 = .ok (.iaload, 1) := by decide +kernel
theorem dX1_faultOn_132 : decode cX1_faultOn 132 = .ok (.aload_n 0, 1) := by decide +kernel
theorem dX1_faultOn_133 : decode cX1_faultOn 133 = .ok (.getfield 20, 3) := by decide +kernel
theorem dX1_faultOn_136 : decode cX1_faultOn 136 = .ok (.iconst 1, 1) := by decide +kernel
theorem dX1_faultOn_137 : decode cX1_faultOn 137 = .ok (.iaload, 1) := by decide +kernel
theorem dX1_faultOn_138 : decode cX1_faultOn 138 = .ok (.invokevirtual 47, 3) := by decide +kernel
theorem dX1_faultOn_141 : decode cX1_faultOn 141 = .ok (.areturn, 1) := by decide +kernel
theorem dX1_faultOn_142 : decode cX1_faultOn 142 = .ok (.aload_n 1, 1) := by decide +kernel
theorem dX1_faultOn_143 : decode cX1_faultOn 143 = .ok (.aload_n 0, 1) := by decide +kernel
theorem dX1_faultOn_144 : decode cX1_faultOn 144 = .ok (.getfield 20, 3) := by decide +kernel
theorem dX1_faultOn_147 : decode cX1_faultOn 147 = .ok (.iconst 0, 1) := by decide +kernel
theorem dX1_faultOn_148 : decode cX1_faultOn 148 = .ok (.iaload, 1) := by decide +kernel
theorem dX1_faultOn_149 : decode cX1_faultOn 149 = .ok (.aload_n 0, 1) := by decide +kernel
theorem dX1_faultOn_150 : decode cX1_faultOn 150 = .ok (.getfield 20, 3) := by decide +kernel
theorem dX1_faultOn_153 : decode cX1_faultOn 153 = .ok (.iconst 1, 1) := by decide +kernel
theorem dX1_faultOn_154 : decode cX1_faultOn 154 = .ok (.iaload, 1) := by decide +kernel
theorem dX1_faultOn_155 : decode cX1_faultOn 155 = .ok (.invokevirtual 51, 3) := by decide +kernel
theorem dX1_faultOn_158 : decode cX1_faultOn 158 = .ok (.areturn, 1) := by decide +kernel
theorem dX1_faultOn_159 : decode cX1_faultOn 159 = .ok (.aload_n 1, 1) := by decide +kernel
theorem dX1_faultOn_160 : decode cX1_faultOn 160 = .ok (.aload_n 0, 1) := by decide +kernel
theorem dX1_faultOn_161 : decode cX1_faultOn 161 = .ok (.getfield 20, 3) := by decide +kernel
theorem dX1_faultOn_164 : decode cX1_faultOn 164 = .ok (.iconst 0, 1) := by decide +kernel
theorem dX1_faultOn_165 : decode cX1_faultOn 165 = .ok (.iaload, 1) := by decide +kernel
theorem dX1_faultOn_166 : decode cX1_faultOn 166 = .ok (.getstatic 54, 3) := by decide +kernel
theorem dX1_faultOn_169 : decode cX1_faultOn 169 = .ok (.invokevirtual 60, 3) := by decide +kernel
theorem dX1_faultOn_172 : decode cX1_faultOn 172 = .ok (.areturn, 1) := by decide +kernel
theorem dX1_faultOn_173 : decode cX1_faultOn 173 = .ok (.aload_n 1, 1) := by decide +kernel
theorem dX1_faultOn_174 : decode cX1_faultOn 174 = .ok (.aload_n 0, 1) := by decide +kernel
theorem dX1_faultOn_175 : decode cX1_faultOn 175 = .ok (.getfield 20, 3) := by decide +kernel
theorem dX1_faultOn_178 : decode cX1_faultOn 178 = .ok (.iconst 0, 1) := by decide +kernel
theorem dX1_faultOn_179 : decode cX1_faultOn 179 = .ok (.iaload, 1) := by decide +kernel
theorem dX1_faultOn_180 : decode cX1_faultOn 180 = .ok (.getstatic 64, 3) := by decide +kernel
theorem dX1_faultOn_183 : decode cX1_faultOn 183 = .ok (.invokevirtual 60, 3) := by decide +kernel
theorem dX1_faultOn_186 : decode cX1_faultOn 186 = .ok (.areturn, 1) := by decide +kernel
theorem dX1_faultOn_187 : decode cX1_faultOn 187 = .ok (.aload_n 1, 1) := by decide +kernel
theorem dX1_faultOn_188 : decode cX1_faultOn 188 = .ok (.aload_n 0, 1) := by decide +kernel
theorem dX1_faultOn_189 : decode cX1_faultOn 189 = .ok (.getfield 20, 3) := by decide +kernel
theorem dX1_faultOn_192 : decode cX1_faultOn 192 = .ok (.iconst 0, 1) := by decide +kernel
theorem dX1_faultOn_193 : decode cX1_faultOn 193 = .ok (.iaload, 1) := by decide +kernel
theorem dX1_faultOn_194 : decode cX1_faultOn 194 = .ok (.getstatic 67, 3) := by decide +kernel
theorem dX1_faultOn_197 : decode cX1_faultOn 197 = .ok (.invokevirtual 60, 3) := by decide +kernel
theorem dX1_faultOn_200 : decode cX1_faultOn 200 = .ok (.areturn, 1) := by decide +kernel
theorem dX1_faultOn_201 : decode cX1_faultOn 201 = .ok (.aload_n 0, 1) := by decide +kernel
theorem dX1_faultOn_202 : decode cX1_faultOn 202 = .ok (.getfield 20, 3) := by decide +kernel
theorem dX1_faultOn_205 : decode cX1_faultOn 205 = .ok (.iconst 0, 1) := by decide +kernel
theorem dX1_faultOn_206 : decode cX1_faultOn 206 = .ok (.iaload, 1) := by decide +kernel
theorem dX1_faultOn_207 : decode cX1_faultOn 207 = .ok (.invokestatic 70, 3) := by decide +kernel
theorem dX1_faultOn_210 : decode cX1_faultOn 210 = .ok (.areturn, 1) := by decide +kernel
theorem dX1_faultOn_211 : decode cX1_faultOn 211 = .ok (.getstatic 74, 3) := by decide +kernel
theorem dX1_faultOn_214 : decode cX1_faultOn 214 = .ok (.areturn, 1) := by decide +kernel
theorem dX1_succeedsOn_0 : decode cX1_succeedsOn 0 = .ok (.aload_n 0, 1) := by decide +kernel
theorem dX1_succeedsOn_1 : decode cX1_succeedsOn 1 = .ok (.aload_n 1, 1) := by decide +kernel
theorem dX1_succeedsOn_2 : decode cX1_succeedsOn 2 = .ok (.invokevirtual 80, 3) := by decide +kernel
theorem dX1_succeedsOn_5 : decode cX1_succeedsOn 5 = .ok (.getstatic 74, 3) := by decide +kernel
theorem dX1_succeedsOn_8 : decode cX1_succeedsOn 8 = .ok (.if_acmp .eq 5, 3) := by decide +kernel
theorem dX1_succeedsOn_11 : decode cX1_succeedsOn 11 = .ok (.iconst 0, 1) := by decide +kernel
theorem dX1_succeedsOn_12 : decode cX1_succeedsOn 12 = .ok (.ireturn, 1) := by decide +kernel
theorem dX1_succeedsOn_13 : decode cX1_succeedsOn 13 = .ok (.getstatic 28, 3) := by decide +kernel
theorem dX1_succeedsOn_16 : decode cX1_succeedsOn 16 = .ok (.aload_n 0, 1) := by decide +kernel
theorem dX1_succeedsOn_17 : decode cX1_succeedsOn 17 = .ok (.getfield 15, 3) := by decide +kernel
theorem dX1_succeedsOn_20 : decode cX1_succeedsOn 20 = .ok (.invokevirtual 33, 3) := by decide +kernel
theorem dX1_succeedsOn_23 : decode cX1_succeedsOn 23 = .ok (.iaload, 1) := by decide +kernel
theorem dX1_succeedsOn_24 : decode cX1_succeedsOn 24 = .ok (.tableswitch 233 1 9 #[52, 97, 123, 143, 163, 177, 191, 205, 219], 52) := by decide +kernel
theorem dX1_succeedsOn_76 : decode cX1_succeedsOn 76 = .ok (.aload_n 1, 1) := by decide +kernel
theorem dX1_succeedsOn_77 : decode cX1_succeedsOn 77 = .ok (.aload_n 0, 1) := by decide +kernel
theorem dX1_succeedsOn_78 : decode cX1_succeedsOn 78 = .ok (.getfield 20, 3) := by decide +kernel
theorem dX1_succeedsOn_81 : decode cX1_succeedsOn 81 = .ok (.iconst 0, 1) := by decide +kernel
theorem dX1_succeedsOn_82 : decode cX1_succeedsOn 82 = .ok (.iaload, 1) := by decide +kernel
theorem dX1_succeedsOn_83 : decode cX1_succeedsOn 83 = .ok (.i2c, 1) := by decide +kernel
theorem dX1_succeedsOn_84 : decode cX1_succeedsOn 84 = .ok (.aload_n 0, 1) := by decide +kernel
theorem dX1_succeedsOn_85 : decode cX1_succeedsOn 85 = .ok (.getfield 20, 3) := by decide +kernel
theorem dX1_succeedsOn_88 : decode cX1_succeedsOn 88 = .ok (.iconst 1, 1) := by decide +kernel
theorem dX1_succeedsOn_89 : decode cX1_succeedsOn 89 = .ok (.iaload, 1) := by decide +kernel
theorem dX1_succeedsOn_90 : decode cX1_succeedsOn 90 = .ok (.aload_n 0, 1) := by decide +kernel
theorem dX1_succeedsOn_91 : decode cX1_succeedsOn 91 = .ok (.getfield 20, 3) := by decide +kernel
theorem dX1_succeedsOn_94 : decode cX1_succeedsOn 94 = .ok (.iconst 2, 1) := by decide +kernel
theorem dX1_succeedsOn_95 : decode cX1_succeedsOn 95 = .ok (.iaload, 1) := by decide +kernel
theorem dX1_succeedsOn_96 : decode cX1_succeedsOn 96 = .ok (.aload_n 0, 1) := by decide +kernel
theorem dX1_succeedsOn_97 : decode cX1_succeedsOn 97 = .ok (.getfield 20, 3) := by decide +kernel
theorem dX1_succeedsOn_100 : decode cX1_succeedsOn 100 = .ok (.iconst 3, 1) := by decide +kernel
theorem dX1_succeedsOn_101 : decode cX1_succeedsOn 101 = .ok (.iaload, 1) := by decide +kernel
theorem dX1_succeedsOn_102 : decode cX1_succeedsOn 102 = .ok (.aload_n 0, 1) := by decide +kernel
theorem dX1_succeedsOn_103 : decode cX1_succeedsOn 103 = .ok (.getfield 20, 3) := by decide +kernel
theorem dX1_succeedsOn_106 : decode cX1_succeedsOn 106 = .ok (.iconst 4, 1) := by decide +kernel
theorem dX1_succeedsOn_107 : decode cX1_succeedsOn 107 = .ok (.iaload, 1) := by decide +kernel
theorem dX1_succeedsOn_108 : decode cX1_succeedsOn 108 = .ok (.aload_n 0, 1) := by decide +kernel
theorem dX1_succeedsOn_109 : decode cX1_succeedsOn 109 = .ok (.getfield 20, 3) := by decide +kernel
theorem dX1_succeedsOn_112 : decode cX1_succeedsOn 112 = .ok (.iconst 5, 1) := by decide +kernel
theorem dX1_succeedsOn_113 : decode cX1_succeedsOn 113 = .ok (.iaload, 1) := by decide +kernel
theorem dX1_succeedsOn_114 : decode cX1_succeedsOn 114 = .ok (.invokevirtual 84, 3) := by decide +kernel
theorem dX1_succeedsOn_117 : decode cX1_succeedsOn 117 = .ok (.pop, 1) := by decide +kernel
theorem dX1_succeedsOn_118 : decode cX1_succeedsOn 118 = .ok (.goto 144, 3) := by decide +kernel
theorem dX1_succeedsOn_121 : decode cX1_succeedsOn 121 = .ok (.aload_n 1, 1) := by decide +kernel
theorem dX1_succeedsOn_122 : decode cX1_succeedsOn 122 = .ok (.aload_n 0, 1) := by decide +kernel
theorem dX1_succeedsOn_123 : decode cX1_succeedsOn 123 = .ok (.getfield 20, 3) := by decide +kernel
theorem dX1_succeedsOn_126 : decode cX1_succeedsOn 126 = .ok (.iconst 0, 1) := by decide +kernel
theorem dX1_succeedsOn_127 : decode cX1_succeedsOn 127 = .ok (.iaload, 1) := by decide +kernel
theorem dX1_succeedsOn_128 : decode cX1_succeedsOn 128 = .ok (.aload_n 0, 1) := by decide +kernel
theorem dX1_succeedsOn_129 : decode cX1_succeedsOn 129 = .ok (.getfield 20, 3) := by decide +kernel
theorem dX1_succeedsOn_132 : decode cX1_succeedsOn 132 = .ok (.iconst 1, 1) := by decide +kernel
theorem dX1_succeedsOn_133 : decode cX1_succeedsOn 133 = .ok (.iaload, 1) := by decide +kernel
theorem dX1_succeedsOn_134 : decode cX1_succeedsOn 134 = .ok (.aload_n 0, 1) := by decide +kernel
theorem dX1_succeedsOn_135 : decode cX1_succeedsOn 135 = .ok (.getfield 20, 3) := by decide +kernel
theorem dX1_succeedsOn_138 : decode cX1_succeedsOn 138 = .ok (.iconst 2, 1) := by decide +kernel
theorem dX1_succeedsOn_139 : decode cX1_succeedsOn 139 = .ok (.iaload, 1) := by decide +kernel
theorem dX1_succeedsOn_140 : decode cX1_succeedsOn 140 = .ok (.invokevirtual 88, 3) := by decide +kernel
theorem dX1_succeedsOn_143 : decode cX1_succeedsOn 143 = .ok (.pop, 1) := by decide +kernel
theorem dX1_succeedsOn_144 : decode cX1_succeedsOn 144 = .ok (.goto 118, 3) := by decide +kernel
theorem dX1_succeedsOn_147 : decode cX1_succeedsOn 147 = .ok (.aload_n 1, 1) := by decide +kernel
theorem dX1_succeedsOn_148 : decode cX1_succeedsOn 148 = .ok (.aload_n 0, 1) := by decide +kernel
theorem dX1_succeedsOn_149 : decode cX1_succeedsOn 149 = .ok (.getfield 20, 3) := by decide +kernel
theorem dX1_succeedsOn_152 : decode cX1_succeedsOn 152 = .ok (.iconst 0, 1) := by decide +kernel
theorem dX1_succeedsOn_153 : decode cX1_succeedsOn 153 = .ok (.iaload, 1) := by decide +kernel
theorem dX1_succeedsOn_154 : decode cX1_succeedsOn 154 = .ok (.aload_n 0, 1) := by decide +kernel
theorem dX1_succeedsOn_155 : decode cX1_succeedsOn 155 = .ok (.getfield 20, 3) := by decide +kernel
theorem dX1_succeedsOn_158 : decode cX1_succeedsOn 158 = .ok (.iconst 1, 1) := by decide +kernel
theorem dX1_succeedsOn_159 : decode cX1_succeedsOn 159 = .ok (.iaload, 1) := by decide +kernel
theorem dX1_succeedsOn_160 : decode cX1_succeedsOn 160 = .ok (.invokevirtual 92, 3) := by decide +kernel
theorem dX1_succeedsOn_163 : decode cX1_succeedsOn 163 = .ok (.pop, 1) := by decide +kernel
theorem dX1_succeedsOn_164 : decode cX1_succeedsOn 164 = .ok (.goto 98, 3) := by decide +kernel
theorem dX1_succeedsOn_167 : decode cX1_succeedsOn 167 = .ok (.aload_n 1, 1) := by decide +kernel
theorem dX1_succeedsOn_168 : decode cX1_succeedsOn 168 = .ok (.aload_n 0, 1) := by decide +kernel
theorem dX1_succeedsOn_169 : decode cX1_succeedsOn 169 = .ok (.getfield 20, 3) := by decide +kernel
theorem dX1_succeedsOn_172 : decode cX1_succeedsOn 172 = .ok (.iconst 0, 1) := by decide +kernel
theorem dX1_succeedsOn_173 : decode cX1_succeedsOn 173 = .ok (.iaload, 1) := by decide +kernel
theorem dX1_succeedsOn_174 : decode cX1_succeedsOn 174 = .ok (.aload_n 0, 1) := by decide +kernel
theorem dX1_succeedsOn_175 : decode cX1_succeedsOn 175 = .ok (.getfield 20, 3) := by decide +kernel
theorem dX1_succeedsOn_178 : decode cX1_succeedsOn 178 = .ok (.iconst 1, 1) := by decide +kernel
theorem dX1_succeedsOn_179 : decode cX1_succeedsOn 179 = .ok (.iaload, 1) := by decide +kernel
theorem dX1_succeedsOn_180 : decode cX1_succeedsOn 180 = .ok (.invokevirtual 96, 3) := by decide +kernel
theorem dX1_succeedsOn_183 : decode cX1_succeedsOn 183 = .ok (.pop, 1) := by decide +kernel
theorem dX1_succeedsOn_184 : decode cX1_succeedsOn 184 = .ok (.goto 78, 3) := by decide +kernel
theorem dX1_succeedsOn_187 : decode cX1_succeedsOn 187 = .ok (.aload_n 1, 1) := by decide +kernel
theorem dX1_succeedsOn_188 : decode cX1_succeedsOn 188 = .ok (.aload_n 0, 1) := by decide +kernel
theorem dX1_succeedsOn_189 : decode cX1_succeedsOn 189 = .ok (.getfield 20, 3) := by decide +kernel
theorem dX1_succeedsOn_192 : decode cX1_succeedsOn 192 = .ok (.iconst 0, 1) := by decide +kernel
theorem dX1_succeedsOn_193 : decode cX1_succeedsOn 193 = .ok (.iaload, 1) := by decide +kernel
theorem dX1_succeedsOn_194 : decode cX1_succeedsOn 194 = .ok (.invokevirtual 99, 3) := by decide +kernel
theorem dX1_succeedsOn_197 : decode cX1_succeedsOn 197 = .ok (.pop, 1) := by decide +kernel
theorem dX1_succeedsOn_198 : decode cX1_succeedsOn 198 = .ok (.goto 64, 3) := by decide +kernel
theorem dX1_succeedsOn_201 : decode cX1_succeedsOn 201 = .ok (.aload_n 1, 1) := by decide +kernel
theorem dX1_succeedsOn_202 : decode cX1_succeedsOn 202 = .ok (.aload_n 0, 1) := by decide +kernel
theorem dX1_succeedsOn_203 : decode cX1_succeedsOn 203 = .ok (.getfield 20, 3) := by decide +kernel
theorem dX1_succeedsOn_206 : decode cX1_succeedsOn 206 = .ok (.iconst 0, 1) := by decide +kernel
theorem dX1_succeedsOn_207 : decode cX1_succeedsOn 207 = .ok (.iaload, 1) := by decide +kernel
theorem dX1_succeedsOn_208 : decode cX1_succeedsOn 208 = .ok (.invokevirtual 103, 3) := by decide +kernel
theorem dX1_succeedsOn_211 : decode cX1_succeedsOn 211 = .ok (.pop, 1) := by decide +kernel
theorem dX1_succeedsOn_212 : decode cX1_succeedsOn 212 = .ok (.goto 50, 3) := by decide +kernel
theorem dX1_succeedsOn_215 : decode cX1_succeedsOn 215 = .ok (.aload_n 1, 1) := by decide +kernel
theorem dX1_succeedsOn_216 : decode cX1_succeedsOn 216 = .ok (.aload_n 0, 1) := by decide +kernel
theorem dX1_succeedsOn_217 : decode cX1_succeedsOn 217 = .ok (.getfield 20, 3) := by decide +kernel
theorem dX1_succeedsOn_220 : decode cX1_succeedsOn 220 = .ok (.iconst 0, 1) := by decide +kernel
theorem dX1_succeedsOn_221 : decode cX1_succeedsOn 221 = .ok (.iaload, 1) := by decide +kernel
theorem dX1_succeedsOn_222 : decode cX1_succeedsOn 222 = .ok (.invokevirtual 106, 3) := by decide +kernel
theorem dX1_succeedsOn_225 : decode cX1_succeedsOn 225 = .ok (.pop, 1) := by decide +kernel
theorem dX1_succeedsOn_226 : decode cX1_succeedsOn 226 = .ok (.goto 36, 3) := by decide +kernel
theorem dX1_succeedsOn_229 : decode cX1_succeedsOn 229 = .ok (.aload_n 1, 1) := by decide +kernel
theorem dX1_succeedsOn_230 : decode cX1_succeedsOn 230 = .ok (.aload_n 0, 1) := by decide +kernel
theorem dX1_succeedsOn_231 : decode cX1_succeedsOn 231 = .ok (.getfield 20, 3) := by decide +kernel
theorem dX1_succeedsOn_234 : decode cX1_succeedsOn 234 = .ok (.iconst 0, 1) := by decide +kernel
theorem dX1_succeedsOn_235 : decode cX1_succeedsOn 235 = .ok (.iaload, 1) := by decide +kernel
theorem dX1_succeedsOn_236 : decode cX1_succeedsOn 236 = .ok (.invokevirtual 109, 3) := by decide +kernel
theorem dX1_succeedsOn_239 : decode cX1_succeedsOn 239 = .ok (.pop, 1) := by decide +kernel
theorem dX1_succeedsOn_240 : decode cX1_succeedsOn 240 = .ok (.goto 22, 3) := by decide +kernel
theorem dX1_succeedsOn_243 : decode cX1_succeedsOn 243 = .ok (.aload_n 1, 1) := by decide +kernel
theorem dX1_succeedsOn_244 : decode cX1_succeedsOn 244 = .ok (.aload_n 0, 1) := by decide +kernel
theorem dX1_succeedsOn_245 : decode cX1_succeedsOn 245 = .ok (.getfield 20, 3) := by decide +kernel
theorem dX1_succeedsOn_248 : decode cX1_succeedsOn 248 = .ok (.iconst 0, 1) := by decide +kernel
theorem dX1_succeedsOn_249 : decode cX1_succeedsOn 249 = .ok (.iaload, 1) := by decide +kernel
theorem dX1_succeedsOn_250 : decode cX1_succeedsOn 250 = .ok (.invokevirtual 112, 3) := by decide +kernel
theorem dX1_succeedsOn_253 : decode cX1_succeedsOn 253 = .ok (.pop, 1) := by decide +kernel
theorem dX1_succeedsOn_254 : decode cX1_succeedsOn 254 = .ok (.goto 8, 3) := by decide +kernel
theorem dX1_succeedsOn_257 : decode cX1_succeedsOn 257 = .ok (.aload_n 1, 1) := by decide +kernel
theorem dX1_succeedsOn_258 : decode cX1_succeedsOn 258 = .ok (.invokevirtual 115, 3) := by decide +kernel
theorem dX1_succeedsOn_261 : decode cX1_succeedsOn 261 = .ok (.pop, 1) := by decide +kernel
theorem dX1_succeedsOn_262 : decode cX1_succeedsOn 262 = .ok (.iconst 1, 1) := by decide +kernel
theorem dX1_succeedsOn_263 : decode cX1_succeedsOn 263 = .ok (.ireturn, 1) := by decide +kernel
theorem dX7_append_0 : decode cX7_append 0 = .ok (.aload_n 0, 1) := by decide +kernel
theorem dX7_append_1 : decode cX7_append 1 = .ok (.getfield 15, 3) := by decide +kernel
theorem dX7_append_4 : decode cX7_append 4 = .ok (.bipush 60, 2) := by decide +kernel
theorem dX7_append_6 : decode cX7_append 6 = .ok (.if_icmp .ge 23, 3) := by decide +kernel
theorem dX7_append_9 : decode cX7_append 9 = .ok (.aload_n 0, 1) := by decide +kernel
theorem dX7_append_10 : decode cX7_append 10 = .ok (.getfield 9, 3) := by decide +kernel
theorem dX7_append_13 : decode cX7_append 13 = .ok (.aload_n 0, 1) := by decide +kernel
theorem dX7_append_14 : decode cX7_append 14 = .ok (.getfield 15, 3) := by decide +kernel
theorem dX7_append_17 : decode cX7_append 17 = .ok (.iload_n 1, 1) := by decide +kernel
theorem dX7_append_18 : decode cX7_append 18 = .ok (.castore, 1) := by decide +kernel
theorem dX7_append_19 : decode cX7_append 19 = .ok (.aload_n 0, 1) := by decide +kernel
theorem dX7_append_20 : decode cX7_append 20 = .ok (.dup, 1) := by decide +kernel
theorem dX7_append_21 : decode cX7_append 21 = .ok (.getfield 15, 3) := by decide +kernel
theorem dX7_append_24 : decode cX7_append 24 = .ok (.iconst 1, 1) := by decide +kernel
theorem dX7_append_25 : decode cX7_append 25 = .ok (.iadd, 1) := by decide +kernel
theorem dX7_append_26 : decode cX7_append 26 = .ok (.putfield 15, 3) := by decide +kernel
theorem dX7_append_29 : decode cX7_append 29 = .ok (.return_, 1) := by decide +kernel
theorem dX7_empty_0 : decode cX7_empty 0 = .ok (.aload_n 0, 1) := by decide +kernel
theorem dX7_empty_1 : decode cX7_empty 1 = .ok (.iconst 0, 1) := by decide +kernel
theorem dX7_empty_2 : decode cX7_empty 2 = .ok (.putfield 15, 3) := by decide +kernel
theorem dX7_empty_5 : decode cX7_empty 5 = .ok (.return_, 1) := by decide +kernel
theorem dX7_isDigitAt_0 : decode cX7_isDigitAt 0 = .ok (.iload_n 1, 1) := by decide +kernel
theorem dX7_isDigitAt_1 : decode cX7_isDigitAt 1 = .ok (.aload_n 0, 1) := by decide +kernel
theorem dX7_isDigitAt_2 : decode cX7_isDigitAt 2 = .ok (.getfield 15, 3) := by decide +kernel
theorem dX7_isDigitAt_5 : decode cX7_isDigitAt 5 = .ok (.if_icmp .ge 29, 3) := by decide +kernel
theorem dX7_isDigitAt_8 : decode cX7_isDigitAt 8 = .ok (.aload_n 0, 1) := by decide +kernel
theorem dX7_isDigitAt_9 : decode cX7_isDigitAt 9 = .ok (.getfield 9, 3) := by decide +kernel
theorem dX7_isDigitAt_12 : decode cX7_isDigitAt 12 = .ok (.iload_n 1, 1) := by decide +kernel
theorem dX7_isDigitAt_13 : decode cX7_isDigitAt 13 = .ok (.caload, 1) := by decide +kernel
theorem dX7_isDigitAt_14 : decode cX7_isDigitAt 14 = .ok (.bipush 48, 2) := by decide +kernel
theorem dX7_isDigitAt_16 : decode cX7_isDigitAt 16 = .ok (.if_icmp .lt 18, 3) := by decide +kernel
theorem dX7_isDigitAt_19 : decode cX7_isDigitAt 19 = .ok (.aload_n 0, 1) := by decide +kernel
theorem dX7_isDigitAt_20 : decode cX7_isDigitAt 20 = .ok (.getfield 9, 3) := by decide +kernel
theorem dX7_isDigitAt_23 : decode cX7_isDigitAt 23 = .ok (.iload_n 1, 1) := by decide +kernel
theorem dX7_isDigitAt_24 : decode cX7_isDigitAt 24 = .ok (.caload, 1) := by decide +kernel
theorem dX7_isDigitAt_25 : decode cX7_isDigitAt 25 = .ok (.bipush 57, 2) := by decide +kernel
theorem dX7_isDigitAt_27 : decode cX7_isDigitAt 27 = .ok (.if_icmp .gt 7, 3) := by decide +kernel
theorem dX7_isDigitAt_30 : decode cX7_isDigitAt 30 = .ok (.iconst 1, 1) := by decide +kernel
theorem dX7_isDigitAt_31 : decode cX7_isDigitAt 31 = .ok (.goto 4, 3) := by decide +kernel
theorem dX7_isDigitAt_34 : decode cX7_isDigitAt 34 = .ok (.iconst 0, 1) := by decide +kernel
theorem dX7_isDigitAt_35 : decode cX7_isDigitAt 35 = .ok (.ireturn, 1) := by decide +kernel
theorem dX7_readNumber_0 : decode cX7_readNumber 0 = .ok (.aload_n 0, 1) := by decide +kernel
theorem dX7_readNumber_1 : decode cX7_readNumber 1 = .ok (.iload_n 1, 1) := by decide +kernel
theorem dX7_readNumber_2 : decode cX7_readNumber 2 = .ok (.invokevirtual 81, 3) := by decide +kernel
theorem dX7_readNumber_5 : decode cX7_readNumber 5 = .ok (.ifCond .ne 5, 3) := by decide +kernel
theorem dX7_readNumber_8 : decode cX7_readNumber 8 = .ok (.iconst 0, 1) := by decide +kernel
theorem dX7_readNumber_9 : decode cX7_readNumber 9 = .ok (.ireturn, 1) := by decide +kernel
theorem dX7_readNumber_10 : decode cX7_readNumber 10 = .ok (.aload_n 0, 1) := by decide +kernel
theorem dX7_readNumber_11 : decode cX7_readNumber 11 = .ok (.getfield 9, 3) := by decide +kernel
theorem dX7_readNumber_14 : decode cX7_readNumber 14 = .ok (.iload_n 1, 1) := by decide +kernel
theorem dX7_readNumber_15 : decode cX7_readNumber 15 = .ok (.caload, 1) := by decide +kernel
theorem dX7_readNumber_16 : decode cX7_readNumber 16 = .ok (.bipush 48, 2) := by decide +kernel
theorem dX7_readNumber_18 : decode cX7_readNumber 18 = .ok (.isub, 1) := by decide +kernel
theorem dX7_readNumber_19 : decode cX7_readNumber 19 = .ok (.istore_n 3, 1) := by decide +kernel
theorem dX7_readNumber_20 : decode cX7_readNumber 20 = .ok (.aload_n 0, 1) := by decide +kernel
theorem dX7_readNumber_21 : decode cX7_readNumber 21 = .ok (.iload_n 1, 1) := by decide +kernel
theorem dX7_readNumber_22 : decode cX7_readNumber 22 = .ok (.iconst 1, 1) := by decide +kernel
theorem dX7_readNumber_23 : decode cX7_readNumber 23 = .ok (.iadd, 1) := by decide +kernel
theorem dX7_readNumber_24 : decode cX7_readNumber 24 = .ok (.invokevirtual 81, 3) := by decide +kernel
theorem dX7_readNumber_27 : decode cX7_readNumber 27 = .ok (.ifCond .ne 10, 3) := by decide +kernel
theorem dX7_readNumber_30 : decode cX7_readNumber 30 = .ok (.aload_n 2, 1) := by decide +kernel
theorem dX7_readNumber_31 : decode cX7_readNumber 31 = .ok (.iload_n 3, 1) := by decide +kernel
theorem dX7_readNumber_32 : decode cX7_readNumber 32 = .ok (.invokevirtual 73, 3) := by decide +kernel
theorem dX7_readNumber_35 : decode cX7_readNumber 35 = .ok (.iconst 1, 1) := by decide +kernel
theorem dX7_readNumber_36 : decode cX7_readNumber 36 = .ok (.ireturn, 1) := by decide +kernel
theorem dX7_readNumber_37 : decode cX7_readNumber 37 = .ok (.aload_n 2, 1) := by decide +kernel
theorem dX7_readNumber_38 : decode cX7_readNumber 38 = .ok (.bipush 10, 2) := by decide +kernel
theorem dX7_readNumber_40 : decode cX7_readNumber 40 = .ok (.iload_n 3, 1) := by decide +kernel
theorem dX7_readNumber_41 : decode cX7_readNumber 41 = .ok (.imul, 1) := by decide +kernel
theorem dX7_readNumber_42 : decode cX7_readNumber 42 = .ok (.aload_n 0, 1) := by decide +kernel
theorem dX7_readNumber_43 : decode cX7_readNumber 43 = .ok (.getfield 9, 3) := by decide +kernel
theorem dX7_readNumber_46 : decode cX7_readNumber 46 = .ok (.iload_n 1, 1) := by decide +kernel
theorem dX7_readNumber_47 : decode cX7_readNumber 47 = .ok (.iconst 1, 1) := by decide +kernel
theorem dX7_readNumber_48 : decode cX7_readNumber 48 = .ok (.iadd, 1) := by decide +kernel
theorem dX7_readNumber_49 : decode cX7_readNumber 49 = .ok (.caload, 1) := by decide +kernel
theorem dX7_readNumber_50 : decode cX7_readNumber 50 = .ok (.iadd, 1) := by decide +kernel
theorem dX7_readNumber_51 : decode cX7_readNumber 51 = .ok (.bipush 48, 2) := by decide +kernel
theorem dX7_readNumber_53 : decode cX7_readNumber 53 = .ok (.isub, 1) := by decide +kernel
theorem dX7_readNumber_54 : decode cX7_readNumber 54 = .ok (.invokevirtual 73, 3) := by decide +kernel
theorem dX7_readNumber_57 : decode cX7_readNumber 57 = .ok (.iconst 2, 1) := by decide +kernel
theorem dX7_readNumber_58 : decode cX7_readNumber 58 = .ok (.ireturn, 1) := by decide +kernel
theorem dX7_readPart_0 : decode cX7_readPart 0 = .ok (.iload_n 2, 1) := by decide +kernel
theorem dX7_readPart_1 : decode cX7_readPart 1 = .ok (.aload_n 0, 1) := by decide +kernel
theorem dX7_readPart_2 : decode cX7_readPart 2 = .ok (.getfield 15, 3) := by decide +kernel
theorem dX7_readPart_5 : decode cX7_readPart 5 = .ok (.if_icmp .lt 5, 3) := by decide +kernel
theorem dX7_readPart_8 : decode cX7_readPart 8 = .ok (.iconst 0, 1) := by decide +kernel
theorem dX7_readPart_9 : decode cX7_readPart 9 = .ok (.ireturn, 1) := by decide +kernel
theorem dX7_readPart_10 : decode cX7_readPart 10 = .ok (.aload_n 0, 1) := by decide +kernel
theorem dX7_readPart_11 : decode cX7_readPart 11 = .ok (.getfield 9, 3) := by decide +kernel
theorem dX7_readPart_14 : decode cX7_readPart 14 = .ok (.iload_n 2, 1) := by decide +kernel
theorem dX7_readPart_15 : decode cX7_readPart 15 = .ok (.caload, 1) := by decide +kernel
theorem dX7_readPart_16 : decode cX7_readPart 16 = .ok (.istore 4, 2) := by decide +kernel
theorem dX7_readPart_18 : decode cX7_readPart 18 = .ok (.iload_n 1, 1) := by decide +kernel
theorem dX7_readPart_19 : decode cX7_readPart 19 = .ok (.lookupswitch 83 #[(68, 53), (76, 33), (78, 76)], 33) := by decide +kernel
theorem dX7_readPart_52 : decode cX7_readPart 52 = .ok (.aload_n 3, 1) := by decide +kernel
theorem dX7_readPart_53 : decode cX7_readPart 53 = .ok (.iload 4, 2) := by decide +kernel
theorem dX7_readPart_55 : decode cX7_readPart 55 = .ok (.invokevirtual 73, 3) := by decide +kernel
theorem dX7_readPart_58 : decode cX7_readPart 58 = .ok (.iload 4, 2) := by decide +kernel
theorem dX7_readPart_60 : decode cX7_readPart 60 = .ok (.invokestatic 77, 3) := by decide +kernel
theorem dX7_readPart_63 : decode cX7_readPart 63 = .ok (.ifCond .eq 7, 3) := by decide +kernel
theorem dX7_readPart_66 : decode cX7_readPart 66 = .ok (.iconst 1, 1) := by decide +kernel
theorem dX7_readPart_67 : decode cX7_readPart 67 = .ok (.goto 4, 3) := by decide +kernel
theorem dX7_readPart_70 : decode cX7_readPart 70 = .ok (.iconst 0, 1) := by decide +kernel
theorem dX7_readPart_71 : decode cX7_readPart 71 = .ok (.ireturn, 1) := by decide +kernel
theorem dX7_readPart_72 : decode cX7_readPart 72 = .ok (.aload_n 3, 1) := by decide +kernel
theorem dX7_readPart_73 : decode cX7_readPart 73 = .ok (.iload 4, 2) := by decide +kernel
theorem dX7_readPart_75 : decode cX7_readPart 75 = .ok (.bipush 48, 2) := by decide +kernel
theorem dX7_readPart_77 : decode cX7_readPart 77 = .ok (.isub, 1) := by decide +kernel
theorem dX7_readPart_78 : decode cX7_readPart 78 = .ok (.invokevirtual 73, 3) := by decide +kernel
theorem dX7_readPart_81 : decode cX7_readPart 81 = .ok (.aload_n 0, 1) := by decide +kernel
theorem dX7_readPart_82 : decode cX7_readPart 82 = .ok (.iload_n 2, 1) := by decide +kernel
theorem dX7_readPart_83 : decode cX7_readPart 83 = .ok (.invokevirtual 81, 3) := by decide +kernel
theorem dX7_readPart_86 : decode cX7_readPart 86 = .ok (.ifCond .eq 7, 3) := by decide +kernel
theorem dX7_readPart_89 : decode cX7_readPart 89 = .ok (.iconst 1, 1) := by decide +kernel
theorem dX7_readPart_90 : decode cX7_readPart 90 = .ok (.goto 4, 3) := by decide +kernel
theorem dX7_readPart_93 : decode cX7_readPart 93 = .ok (.iconst 0, 1) := by decide +kernel
theorem dX7_readPart_94 : decode cX7_readPart 94 = .ok (.ireturn, 1) := by decide +kernel
theorem dX7_readPart_95 : decode cX7_readPart 95 = .ok (.aload_n 0, 1) := by decide +kernel
theorem dX7_readPart_96 : decode cX7_readPart 96 = .ok (.iload_n 2, 1) := by decide +kernel
theorem dX7_readPart_97 : decode cX7_readPart 97 = .ok (.aload_n 3, 1) := by decide +kernel
theorem dX7_readPart_98 : decode cX7_readPart 98 = .ok (.invokevirtual 85, 3) := by decide +kernel
theorem dX7_readPart_101 : decode cX7_readPart 101 = .ok (.ireturn, 1) := by decide +kernel
theorem dX7_readPart_102 : decode cX7_readPart 102 = .ok (.iload 4, 2) := by decide +kernel
theorem dX7_readPart_104 : decode cX7_readPart 104 = .ok (.iload_n 1, 1) := by decide +kernel
theorem dX7_readPart_105 : decode cX7_readPart 105 = .ok (.if_icmp .ne 7, 3) := by decide +kernel
theorem dX7_readPart_108 : decode cX7_readPart 108 = .ok (.iconst 1, 1) := by decide +kernel
theorem dX7_readPart_109 : decode cX7_readPart 109 = .ok (.goto 4, 3) := by decide +kernel
theorem dX7_readPart_112 : decode cX7_readPart 112 = .ok (.iconst 0, 1) := by decide +kernel
theorem dX7_readPart_113 : decode cX7_readPart 113 = .ok (.ireturn, 1) := by decide +kernel
theorem dX7_readKind_0 : decode cX7_readKind 0 = .ok (.aload_n 3, 1) := by decide +kernel
theorem dX7_readKind_1 : decode cX7_readKind 1 = .ok (.aload_n 1, 1) := by decide +kernel
theorem dX7_readKind_2 : decode cX7_readKind 2 = .ok (.invokevirtual 44, 3) := by decide +kernel
theorem dX7_readKind_5 : decode cX7_readKind 5 = .ok (.iload_n 2, 1) := by decide +kernel
theorem dX7_readKind_6 : decode cX7_readKind 6 = .ok (.istore 4, 2) := by decide +kernel
theorem dX7_readKind_8 : decode cX7_readKind 8 = .ok (.iconst 0, 1) := by decide +kernel
theorem dX7_readKind_9 : decode cX7_readKind 9 = .ok (.istore 5, 2) := by decide +kernel
theorem dX7_readKind_11 : decode cX7_readKind 11 = .ok (.iload 5, 2) := by decide +kernel
theorem dX7_readKind_13 : decode cX7_readKind 13 = .ok (.aload_n 1, 1) := by decide +kernel
theorem dX7_readKind_14 : decode cX7_readKind 14 = .ok (.getfield 48, 3) := by decide +kernel
theorem dX7_readKind_17 : decode cX7_readKind 17 = .ok (.invokevirtual 54, 3) := by decide +kernel
theorem dX7_readKind_20 : decode cX7_readKind 20 = .ok (.if_icmp .ge 54, 3) := by decide +kernel
theorem dX7_readKind_23 : decode cX7_readKind 23 = .ok (.aload_n 0, 1) := by decide +kernel
theorem dX7_readKind_24 : decode cX7_readKind 24 = .ok (.aload_n 1, 1) := by decide +kernel
theorem dX7_readKind_25 : decode cX7_readKind 25 = .ok (.getfield 48, 3) := by decide +kernel
theorem dX7_readKind_28 : decode cX7_readKind 28 = .ok (.iload 5, 2) := by decide +kernel
theorem dX7_readKind_30 : decode cX7_readKind 30 = .ok (.invokevirtual 59, 3) := by decide +kernel
theorem dX7_readKind_33 : decode cX7_readKind 33 = .ok (.iload 4, 2) := by decide +kernel
theorem dX7_readKind_35 : decode cX7_readKind 35 = .ok (.aload_n 3, 1) := by decide +kernel
theorem dX7_readKind_36 : decode cX7_readKind 36 = .ok (.invokevirtual 63, 3) := by decide +kernel
theorem dX7_readKind_39 : decode cX7_readKind 39 = .ok (.istore 6, 2) := by decide +kernel
theorem dX7_readKind_41 : decode cX7_readKind 41 = .ok (.aload_n 0, 1) := by decide +kernel
theorem dX7_readKind_42 : decode cX7_readKind 42 = .ok (.aload_n 0, 1) := by decide +kernel
theorem dX7_readKind_43 : decode cX7_readKind 43 = .ok (.getfield 29, 3) := by decide +kernel
theorem dX7_readKind_46 : decode cX7_readKind 46 = .ok (.iload 4, 2) := by decide +kernel
theorem dX7_readKind_48 : decode cX7_readKind 48 = .ok (.invokestatic 67, 3) := by decide +kernel
theorem dX7_readKind_51 : decode cX7_readKind 51 = .ok (.putfield 29, 3) := by decide +kernel
theorem dX7_readKind_54 : decode cX7_readKind 54 = .ok (.iload 6, 2) := by decide +kernel
theorem dX7_readKind_56 : decode cX7_readKind 56 = .ok (.ifCond .ne 5, 3) := by decide +kernel
theorem dX7_readKind_59 : decode cX7_readKind 59 = .ok (.iconst (-1), 1) := by decide +kernel
theorem dX7_readKind_60 : decode cX7_readKind 60 = .ok (.ireturn, 1) := by decide +kernel
theorem dX7_readKind_61 : decode cX7_readKind 61 = .ok (.iload 4, 2) := by decide +kernel
theorem dX7_readKind_63 : decode cX7_readKind 63 = .ok (.iload 6, 2) := by decide +kernel
theorem dX7_readKind_65 : decode cX7_readKind 65 = .ok (.iadd, 1) := by decide +kernel
theorem dX7_readKind_66 : decode cX7_readKind 66 = .ok (.istore 4, 2) := by decide +kernel
theorem dX7_readKind_68 : decode cX7_readKind 68 = .ok (.iinc 5 1, 3) := by decide +kernel
theorem dX7_readKind_71 : decode cX7_readKind 71 = .ok (.goto (-60), 3) := by decide +kernel
theorem dX7_readKind_74 : decode cX7_readKind 74 = .ok (.aload_n 0, 1) := by decide +kernel
theorem dX7_readKind_75 : decode cX7_readKind 75 = .ok (.aload_n 0, 1) := by decide +kernel
theorem dX7_readKind_76 : decode cX7_readKind 76 = .ok (.getfield 29, 3) := by decide +kernel
theorem dX7_readKind_79 : decode cX7_readKind 79 = .ok (.iload 4, 2) := by decide +kernel
theorem dX7_readKind_81 : decode cX7_readKind 81 = .ok (.invokestatic 67, 3) := by decide +kernel
theorem dX7_readKind_84 : decode cX7_readKind 84 = .ok (.putfield 29, 3) := by decide +kernel
theorem dX7_readKind_87 : decode cX7_readKind 87 = .ok (.iload 4, 2) := by decide +kernel
theorem dX7_readKind_89 : decode cX7_readKind 89 = .ok (.aload_n 0, 1) := by decide +kernel
theorem dX7_readKind_90 : decode cX7_readKind 90 = .ok (.getfield 15, 3) := by decide +kernel
theorem dX7_readKind_93 : decode cX7_readKind 93 = .ok (.if_icmp .ge 15, 3) := by decide +kernel
theorem dX7_readKind_96 : decode cX7_readKind 96 = .ok (.aload_n 0, 1) := by decide +kernel
theorem dX7_readKind_97 : decode cX7_readKind 97 = .ok (.getfield 9, 3) := by decide +kernel
theorem dX7_readKind_100 : decode cX7_readKind 100 = .ok (.iload 4, 2) := by decide +kernel
theorem dX7_readKind_102 : decode cX7_readKind 102 = .ok (.caload, 1) := by decide +kernel
theorem dX7_readKind_103 : decode cX7_readKind 103 = .ok (.bipush 59, 2) := by decide +kernel
theorem dX7_readKind_105 : decode cX7_readKind 105 = .ok (.if_icmp .ne 8, 3) := by decide +kernel
theorem dX7_readKind_108 : decode cX7_readKind 108 = .ok (.iload 4, 2) := by decide +kernel
theorem dX7_readKind_110 : decode cX7_readKind 110 = .ok (.goto 4, 3) := by decide +kernel
theorem dX7_readKind_113 : decode cX7_readKind 113 = .ok (.iconst (-1), 1) := by decide +kernel
theorem dX7_readKind_114 : decode cX7_readKind 114 = .ok (.ireturn, 1) := by decide +kernel
theorem dX7_readCommand_0 : decode cX7_readCommand 0 = .ok (.aload_n 0, 1) := by decide +kernel
theorem dX7_readCommand_1 : decode cX7_readCommand 1 = .ok (.iload_n 1, 1) := by decide +kernel
theorem dX7_readCommand_2 : decode cX7_readCommand 2 = .ok (.putfield 29, 3) := by decide +kernel
theorem dX7_readCommand_5 : decode cX7_readCommand 5 = .ok (.iconst 0, 1) := by decide +kernel
theorem dX7_readCommand_6 : decode cX7_readCommand 6 = .ok (.istore_n 3, 1) := by decide +kernel
theorem dX7_readCommand_7 : decode cX7_readCommand 7 = .ok (.iload_n 3, 1) := by decide +kernel
theorem dX7_readCommand_8 : decode cX7_readCommand 8 = .ok (.getstatic 36, 3) := by decide +kernel
theorem dX7_readCommand_11 : decode cX7_readCommand 11 = .ok (.arraylength, 1) := by decide +kernel
theorem dX7_readCommand_12 : decode cX7_readCommand 12 = .ok (.if_icmp .ge 30, 3) := by decide +kernel
theorem dX7_readCommand_15 : decode cX7_readCommand 15 = .ok (.aload_n 0, 1) := by decide +kernel
theorem dX7_readCommand_16 : decode cX7_readCommand 16 = .ok (.getstatic 36, 3) := by decide +kernel
theorem dX7_readCommand_19 : decode cX7_readCommand 19 = .ok (.iload_n 3, 1) := by decide +kernel
theorem dX7_readCommand_20 : decode cX7_readCommand 20 = .ok (.aaload, 1) := by decide +kernel
theorem dX7_readCommand_21 : decode cX7_readCommand 21 = .ok (.iload_n 1, 1) := by decide +kernel
theorem dX7_readCommand_22 : decode cX7_readCommand 22 = .ok (.aload_n 2, 1) := by decide +kernel
theorem dX7_readCommand_23 : decode cX7_readCommand 23 = .ok (.invokevirtual 40, 3) := by decide +kernel
theorem dX7_readCommand_26 : decode cX7_readCommand 26 = .ok (.istore 4, 2) := by decide +kernel
theorem dX7_readCommand_28 : decode cX7_readCommand 28 = .ok (.iload 4, 2) := by decide +kernel
theorem dX7_readCommand_30 : decode cX7_readCommand 30 = .ok (.ifCond .lt 6, 3) := by decide +kernel
theorem dX7_readCommand_33 : decode cX7_readCommand 33 = .ok (.iload 4, 2) := by decide +kernel
theorem dX7_readCommand_35 : decode cX7_readCommand 35 = .ok (.ireturn, 1) := by decide +kernel
theorem dX7_readCommand_36 : decode cX7_readCommand 36 = .ok (.iinc 3 1, 3) := by decide +kernel
theorem dX7_readCommand_39 : decode cX7_readCommand 39 = .ok (.goto (-32), 3) := by decide +kernel
theorem dX7_readCommand_42 : decode cX7_readCommand 42 = .ok (.iconst (-1), 1) := by decide +kernel
theorem dX7_readCommand_43 : decode cX7_readCommand 43 = .ok (.ireturn, 1) := by decide +kernel
theorem dX7_parse_0 : decode cX7_parse 0 = .ok (.iconst 0, 1) := by decide +kernel
theorem dX7_parse_1 : decode cX7_parse 1 = .ok (.istore_n 1, 1) := by decide +kernel
theorem dX7_parse_2 : decode cX7_parse 2 = .ok (.aload_n 0, 1) := by decide +kernel
theorem dX7_parse_3 : decode cX7_parse 3 = .ok (.iconst 0, 1) := by decide +kernel
theorem dX7_parse_4 : decode cX7_parse 4 = .ok (.putfield 26, 3) := by decide +kernel
theorem dX7_parse_7 : decode cX7_parse 7 = .ok (.aload_n 0, 1) := by decide +kernel
theorem dX7_parse_8 : decode cX7_parse 8 = .ok (.getfield 26, 3) := by decide +kernel
theorem dX7_parse_11 : decode cX7_parse 11 = .ok (.bipush 13, 2) := by decide +kernel
theorem dX7_parse_13 : decode cX7_parse 13 = .ok (.if_icmp .ge 54, 3) := by decide +kernel
theorem dX7_parse_16 : decode cX7_parse 16 = .ok (.aload_n 0, 1) := by decide +kernel
theorem dX7_parse_17 : decode cX7_parse 17 = .ok (.iload_n 1, 1) := by decide +kernel
theorem dX7_parse_18 : decode cX7_parse 18 = .ok (.aload_n 0, 1) := by decide +kernel
theorem dX7_parse_19 : decode cX7_parse 19 = .ok (.getfield 21, 3) := by decide +kernel
theorem dX7_parse_22 : decode cX7_parse 22 = .ok (.aload_n 0, 1) := by decide +kernel
theorem dX7_parse_23 : decode cX7_parse 23 = .ok (.getfield 26, 3) := by decide +kernel
theorem dX7_parse_26 : decode cX7_parse 26 = .ok (.aaload, 1) := by decide +kernel
theorem dX7_parse_27 : decode cX7_parse 27 = .ok (.invokevirtual 32, 3) := by decide +kernel
theorem dX7_parse_30 : decode cX7_parse 30 = .ok (.istore_n 2, 1) := by decide +kernel
theorem dX7_parse_31 : decode cX7_parse 31 = .ok (.iload_n 2, 1) := by decide +kernel
theorem dX7_parse_32 : decode cX7_parse 32 = .ok (.ifCond .ge 8, 3) := by decide +kernel
theorem dX7_parse_35 : decode cX7_parse 35 = .ok (.aload_n 0, 1) := by decide +kernel
theorem dX7_parse_36 : decode cX7_parse 36 = .ok (.getfield 29, 3) := by decide +kernel
theorem dX7_parse_39 : decode cX7_parse 39 = .ok (.ireturn, 1) := by decide +kernel
theorem dX7_parse_40 : decode cX7_parse 40 = .ok (.aload_n 0, 1) := by decide +kernel
theorem dX7_parse_41 : decode cX7_parse 41 = .ok (.dup, 1) := by decide +kernel
theorem dX7_parse_42 : decode cX7_parse 42 = .ok (.getfield 26, 3) := by decide +kernel
theorem dX7_parse_45 : decode cX7_parse 45 = .ok (.iconst 1, 1) := by decide +kernel
theorem dX7_parse_46 : decode cX7_parse 46 = .ok (.iadd, 1) := by decide +kernel
theorem dX7_parse_47 : decode cX7_parse 47 = .ok (.putfield 26, 3) := by decide +kernel
theorem dX7_parse_50 : decode cX7_parse 50 = .ok (.iload_n 2, 1) := by decide +kernel
theorem dX7_parse_51 : decode cX7_parse 51 = .ok (.aload_n 0, 1) := by decide +kernel
theorem dX7_parse_52 : decode cX7_parse 52 = .ok (.getfield 15, 3) := by decide +kernel
theorem dX7_parse_55 : decode cX7_parse 55 = .ok (.if_icmp .lt 5, 3) := by decide +kernel
theorem dX7_parse_58 : decode cX7_parse 58 = .ok (.iconst (-1), 1) := by decide +kernel
theorem dX7_parse_59 : decode cX7_parse 59 = .ok (.ireturn, 1) := by decide +kernel
theorem dX7_parse_60 : decode cX7_parse 60 = .ok (.iload_n 2, 1) := by decide +kernel
theorem dX7_parse_61 : decode cX7_parse 61 = .ok (.iconst 1, 1) := by decide +kernel
theorem dX7_parse_62 : decode cX7_parse 62 = .ok (.iadd, 1) := by decide +kernel
theorem dX7_parse_63 : decode cX7_parse 63 = .ok (.istore_n 1, 1) := by decide +kernel
theorem dX7_parse_64 : decode cX7_parse 64 = .ok (.goto (-57), 3) := by decide +kernel
theorem dX7_parse_67 : decode cX7_parse 67 = .ok (.aload_n 0, 1) := by decide +kernel
theorem dX7_parse_68 : decode cX7_parse 68 = .ok (.getfield 15, 3) := by decide +kernel
theorem dX7_parse_71 : decode cX7_parse 71 = .ok (.ireturn, 1) := by decide +kernel
