theorem dX4_mostOften_3 : decode cX4_mostOften 3 = .ok (.istore_n 3, 1) := by decide +kernel
theorem dX4_mostOften_4 : decode cX4_mostOften 4 = .ok (.iload_n 3, 1) := by decide +kernel
theorem dX4_mostOften_5 : decode cX4_mostOften 5 = .ok (.aload_n 0, 1) := by decide +kernel
theorem dX4_mostOften_6 : decode cX4_mostOften 6 = .ok (.getfield 51, 3) := by decide +kernel
theorem dX4_mostOften_9 : decode cX4_mostOften 9 = .ok (.getfield 65, 3) := by decide +kernel
theorem dX4_mostOften_12 : decode cX4_mostOften 12 = .ok (.if_icmp .ge 30, 3) := by decide +kernel
theorem dX4_mostOften_15 : decode cX4_mostOften 15 = .ok (.aload_n 0, 1) := by decide +kernel
theorem dX4_mostOften_16 : decode cX4_mostOften 16 = .ok (.getfield 36, 3) := by decide +kernel
theorem dX4_mostOften_19 : decode cX4_mostOften 19 = .ok (.iload_n 3, 1) := by decide +kernel
theorem dX4_mostOften_20 : decode cX4_mostOften 20 = .ok (.aaload, 1) := by decide +kernel
theorem dX4_mostOften_21 : decode cX4_mostOften 21 = .ok (.iload_n 1, 1) := by decide +kernel
theorem dX4_mostOften_22 : decode cX4_mostOften 22 = .ok (.iaload, 1) := by decide +kernel
theorem dX4_mostOften_23 : decode cX4_mostOften 23 = .ok (.aload_n 0, 1) := by decide +kernel
theorem dX4_mostOften_24 : decode cX4_mostOften 24 = .ok (.getfield 36, 3) := by decide +kernel
theorem dX4_mostOften_27 : decode cX4_mostOften 27 = .ok (.iload_n 2, 1) := by decide +kernel
theorem dX4_mostOften_28 : decode cX4_mostOften 28 = .ok (.aaload, 1) := by decide +kernel
theorem dX4_mostOften_29 : decode cX4_mostOften 29 = .ok (.iload_n 1, 1) := by decide +kernel
theorem dX4_mostOften_30 : decode cX4_mostOften 30 = .ok (.iaload, 1) := by decide +kernel
theorem dX4_mostOften_31 : decode cX4_mostOften 31 = .ok (.if_icmp .le 5, 3) := by decide +kernel
theorem dX4_mostOften_34 : decode cX4_mostOften 34 = .ok (.iload_n 3, 1) := by decide +kernel
theorem dX4_mostOften_35 : decode cX4_mostOften 35 = .ok (.istore_n 2, 1) := by decide +kernel
theorem dX4_mostOften_36 : decode cX4_mostOften 36 = .ok (.iinc 3 1, 3) := by decide +kernel
theorem dX4_mostOften_39 : decode cX4_mostOften 39 = .ok (.goto (-35), 3) := by decide +kernel
theorem dX4_mostOften_42 : decode cX4_mostOften 42 = .ok (.iload_n 2, 1) := by decide +kernel
theorem dX4_mostOften_43 : decode cX4_mostOften 43 = .ok (.ireturn, 1) := by decide +kernel
theorem dX4_commonWord_0 : decode cX4_commonWord 0 = .ok (.iload_n 1, 1) := by decide +kernel
theorem dX4_commonWord_1 : decode cX4_commonWord 1 = .ok (.istore_n 2, 1) := by decide +kernel
theorem dX4_commonWord_2 : decode cX4_commonWord 2 = .ok (.bipush 64, 2) := by decide +kernel
theorem dX4_commonWord_4 : decode cX4_commonWord 4 = .ok (.istore_n 3, 1) := by decide +kernel
theorem dX4_commonWord_5 : decode cX4_commonWord 5 = .ok (.iload_n 3, 1) := by decide +kernel
theorem dX4_commonWord_6 : decode cX4_commonWord 6 = .ok (.ifCond .lt 51, 3) := by decide +kernel
theorem dX4_commonWord_9 : decode cX4_commonWord 9 = .ok (.iconst 0, 1) := by decide +kernel
theorem dX4_commonWord_10 : decode cX4_commonWord 10 = .ok (.istore 4, 2) := by decide +kernel
theorem dX4_commonWord_12 : decode cX4_commonWord 12 = .ok (.iload 4, 2) := by decide +kernel
theorem dX4_commonWord_14 : decode cX4_commonWord 14 = .ok (.aload_n 0, 1) := by decide +kernel
theorem dX4_commonWord_15 : decode cX4_commonWord 15 = .ok (.getfield 51, 3) := by decide +kernel
theorem dX4_commonWord_18 : decode cX4_commonWord 18 = .ok (.getfield 65, 3) := by decide +kernel
theorem dX4_commonWord_21 : decode cX4_commonWord 21 = .ok (.if_icmp .ge 30, 3) := by decide +kernel
theorem dX4_commonWord_24 : decode cX4_commonWord 24 = .ok (.aload_n 0, 1) := by decide +kernel
theorem dX4_commonWord_25 : decode cX4_commonWord 25 = .ok (.getfield 45, 3) := by decide +kernel
theorem dX4_commonWord_28 : decode cX4_commonWord 28 = .ok (.iload 4, 2) := by decide +kernel
theorem dX4_commonWord_30 : decode cX4_commonWord 30 = .ok (.iaload, 1) := by decide +kernel
theorem dX4_commonWord_31 : decode cX4_commonWord 31 = .ok (.iload_n 3, 1) := by decide +kernel
theorem dX4_commonWord_32 : decode cX4_commonWord 32 = .ok (.if_icmp .ne 13, 3) := by decide +kernel
theorem dX4_commonWord_35 : decode cX4_commonWord 35 = .ok (.iload_n 2, 1) := by decide +kernel
theorem dX4_commonWord_36 : decode cX4_commonWord 36 = .ok (.ifCond .ne 6, 3) := by decide +kernel
theorem dX4_commonWord_39 : decode cX4_commonWord 39 = .ok (.iload 4, 2) := by decide +kernel
theorem dX4_commonWord_41 : decode cX4_commonWord 41 = .ok (.ireturn, 1) := by decide +kernel
theorem dX4_commonWord_42 : decode cX4_commonWord 42 = .ok (.iinc 2 (-1), 3) := by decide +kernel
theorem dX4_commonWord_45 : decode cX4_commonWord 45 = .ok (.iinc 4 1, 3) := by decide +kernel
theorem dX4_commonWord_48 : decode cX4_commonWord 48 = .ok (.goto (-36), 3) := by decide +kernel
theorem dX4_commonWord_51 : decode cX4_commonWord 51 = .ok (.iinc 3 (-1), 3) := by decide +kernel
theorem dX4_commonWord_54 : decode cX4_commonWord 54 = .ok (.goto (-49), 3) := by decide +kernel
theorem dX4_commonWord_57 : decode cX4_commonWord 57 = .ok (.iconst (-1), 1) := by decide +kernel
theorem dX4_commonWord_58 : decode cX4_commonWord 58 = .ok (.ireturn, 1) := by decide +kernel
theorem dX5_init_0 : decode cX5_init 0 = .ok (.aload_n 0, 1) := by decide +kernel
theorem dX5_init_1 : decode cX5_init 1 = .ok (.invokespecial 3, 3) := by decide +kernel
theorem dX5_init_4 : decode cX5_init 4 = .ok (.aload_n 0, 1) := by decide +kernel
theorem dX5_init_5 : decode cX5_init 5 = .ok (.iconst 0, 1) := by decide +kernel
theorem dX5_init_6 : decode cX5_init 6 = .ok (.putfield 9, 3) := by decide +kernel
theorem dX5_init_9 : decode cX5_init 9 = .ok (.aload_n 0, 1) := by decide +kernel
theorem dX5_init_10 : decode cX5_init 10 = .ok (.iconst 0, 1) := by decide +kernel
theorem dX5_init_11 : decode cX5_init 11 = .ok (.putfield 15, 3) := by decide +kernel
theorem dX5_init_14 : decode cX5_init 14 = .ok (.aload_n 0, 1) := by decide +kernel
theorem dX5_init_15 : decode cX5_init 15 = .ok (.iconst 0, 1) := by decide +kernel
theorem dX5_init_16 : decode cX5_init 16 = .ok (.putfield 18, 3) := by decide +kernel
theorem dX5_init_19 : decode cX5_init 19 = .ok (.aload_n 0, 1) := by decide +kernel
theorem dX5_init_20 : decode cX5_init 20 = .ok (.iconst 0, 1) := by decide +kernel
theorem dX5_init_21 : decode cX5_init 21 = .ok (.putfield 21, 3) := by decide +kernel
theorem dX5_init_24 : decode cX5_init 24 = .ok (.aload_n 0, 1) := by decide +kernel
theorem dX5_init_25 : decode cX5_init 25 = .ok (.iconst 0, 1) := by decide +kernel
theorem dX5_init_26 : decode cX5_init 26 = .ok (.putfield 24, 3) := by decide +kernel
theorem dX5_init_29 : decode cX5_init 29 = .ok (.aload_n 0, 1) := by decide +kernel
theorem dX5_init_30 : decode cX5_init 30 = .ok (.iconst 0, 1) := by decide +kernel
theorem dX5_init_31 : decode cX5_init 31 = .ok (.putfield 27, 3) := by decide +kernel
theorem dX5_init_34 : decode cX5_init 34 = .ok (.aload_n 0, 1) := by decide +kernel
theorem dX5_init_35 : decode cX5_init 35 = .ok (.iconst 0, 1) := by decide +kernel
theorem dX5_init_36 : decode cX5_init 36 = .ok (.putfield 30, 3) := by decide +kernel
theorem dX5_init_39 : decode cX5_init 39 = .ok (.aload_n 0, 1) := by decide +kernel
theorem dX5_init_40 : decode cX5_init 40 = .ok (.iconst 0, 1) := by decide +kernel
theorem dX5_init_41 : decode cX5_init 41 = .ok (.putfield 33, 3) := by decide +kernel
theorem dX5_init_44 : decode cX5_init 44 = .ok (.aload_n 0, 1) := by decide +kernel
theorem dX5_init_45 : decode cX5_init 45 = .ok (.aload_n 1, 1) := by decide +kernel
theorem dX5_init_46 : decode cX5_init 46 = .ok (.putfield 36, 3) := by decide +kernel
theorem dX5_init_49 : decode cX5_init 49 = .ok (.return_, 1) := by decide +kernel
theorem dX5_measure_0 : decode cX5_measure 0 = .ok (.aload_n 0, 1) := by decide +kernel
theorem dX5_measure_1 : decode cX5_measure 1 = .ok (.getfield 36, 3) := by decide +kernel
theorem dX5_measure_4 : decode cX5_measure 4 = .ok (.getfield 40, 3) := by decide +kernel
theorem dX5_measure_7 : decode cX5_measure 7 = .ok (.iload_n 1, 1) := by decide +kernel
theorem dX5_measure_8 : decode cX5_measure 8 = .ok (.aaload, 1) := by decide +kernel
theorem dX5_measure_9 : decode cX5_measure 9 = .ok (.astore 4, 2) := by decide +kernel
theorem dX5_measure_11 : decode cX5_measure 11 = .ok (.iload_n 2, 1) := by decide +kernel
theorem dX5_measure_12 : decode cX5_measure 12 = .ok (.iload_n 3, 1) := by decide +kernel
theorem dX5_measure_13 : decode cX5_measure 13 = .ok (.imul, 1) := by decide +kernel
theorem dX5_measure_14 : decode cX5_measure 14 = .ok (.istore 5, 2) := by decide +kernel
theorem dX5_measure_16 : decode cX5_measure 16 = .ok (.iload 5, 2) := by decide +kernel
theorem dX5_measure_18 : decode cX5_measure 18 = .ok (.iload_n 3, 1) := by decide +kernel
theorem dX5_measure_19 : decode cX5_measure 19 = .ok (.iadd, 1) := by decide +kernel
theorem dX5_measure_20 : decode cX5_measure 20 = .ok (.aload_n 0, 1) := by decide +kernel
theorem dX5_measure_21 : decode cX5_measure 21 = .ok (.getfield 36, 3) := by decide +kernel
theorem dX5_measure_24 : decode cX5_measure 24 = .ok (.getfield 46, 3) := by decide +kernel
theorem dX5_measure_27 : decode cX5_measure 27 = .ok (.iload_n 1, 1) := by decide +kernel
theorem dX5_measure_28 : decode cX5_measure 28 = .ok (.iaload, 1) := by decide +kernel
theorem dX5_measure_29 : decode cX5_measure 29 = .ok (.invokestatic 49, 3) := by decide +kernel
theorem dX5_measure_32 : decode cX5_measure 32 = .ok (.istore 6, 2) := by decide +kernel
theorem dX5_measure_34 : decode cX5_measure 34 = .ok (.iload 5, 2) := by decide +kernel
theorem dX5_measure_36 : decode cX5_measure 36 = .ok (.ifCond .ne 7, 3) := by decide +kernel
theorem dX5_measure_39 : decode cX5_measure 39 = .ok (.iconst (-1), 1) := by decide +kernel
theorem dX5_measure_40 : decode cX5_measure 40 = .ok (.goto 10, 3) := by decide +kernel
theorem dX5_measure_43 : decode cX5_measure 43 = .ok (.aload 4, 2) := by decide +kernel
theorem dX5_measure_45 : decode cX5_measure 45 = .ok (.iload 5, 2) := by decide +kernel
theorem dX5_measure_47 : decode cX5_measure 47 = .ok (.iconst 1, 1) := by decide +kernel
theorem dX5_measure_48 : decode cX5_measure 48 = .ok (.isub, 1) := by decide +kernel
theorem dX5_measure_49 : decode cX5_measure 49 = .ok (.iaload, 1) := by decide +kernel
theorem dX5_measure_50 : decode cX5_measure 50 = .ok (.istore 7, 2) := by decide +kernel
theorem dX5_measure_52 : decode cX5_measure 52 = .ok (.iconst 0, 1) := by decide +kernel
theorem dX5_measure_53 : decode cX5_measure 53 = .ok (.istore 8, 2) := by decide +kernel
theorem dX5_measure_55 : decode cX5_measure 55 = .ok (.iconst 0, 1) := by decide +kernel
theorem dX5_measure_56 : decode cX5_measure 56 = .ok (.istore 9, 2) := by decide +kernel
theorem dX5_measure_58 : decode cX5_measure 58 = .ok (.iconst 0, 1) := by decide +kernel
theorem dX5_measure_59 : decode cX5_measure 59 = .ok (.istore 10, 2) := by decide +kernel
theorem dX5_measure_61 : decode cX5_measure 61 = .ok (.iconst 0, 1) := by decide +kernel
theorem dX5_measure_62 : decode cX5_measure 62 = .ok (.istore 11, 2) := by decide +kernel
theorem dX5_measure_64 : decode cX5_measure 64 = .ok (.aload_n 0, 1) := by decide +kernel
theorem dX5_measure_65 : decode cX5_measure 65 = .ok (.iconst 0, 1) := by decide +kernel
theorem dX5_measure_66 : decode cX5_measure 66 = .ok (.putfield 21, 3) := by decide +kernel
theorem dX5_measure_69 : decode cX5_measure 69 = .ok (.iload 5, 2) := by decide +kernel
theorem dX5_measure_71 : decode cX5_measure 71 = .ok (.istore 12, 2) := by decide +kernel
theorem dX5_measure_73 : decode cX5_measure 73 = .ok (.iload 12, 2) := by decide +kernel
theorem dX5_measure_75 : decode cX5_measure 75 = .ok (.iload 6, 2) := by decide +kernel
theorem dX5_measure_77 : decode cX5_measure 77 = .ok (.if_icmp .ge 108, 3) := by decide +kernel
theorem dX5_measure_80 : decode cX5_measure 80 = .ok (.aload 4, 2) := by decide +kernel
theorem dX5_measure_82 : decode cX5_measure 82 = .ok (.iload 12, 2) := by decide +kernel
theorem dX5_measure_84 : decode cX5_measure 84 = .ok (.iaload, 1) := by decide +kernel
theorem dX5_measure_85 : decode cX5_measure 85 = .ok (.istore 13, 2) := by decide +kernel
theorem dX5_measure_87 : decode cX5_measure 87 = .ok (.iload 8, 2) := by decide +kernel
theorem dX5_measure_89 : decode cX5_measure 89 = .ok (.iload 13, 2) := by decide +kernel
theorem dX5_measure_91 : decode cX5_measure 91 = .ok (.iload 7, 2) := by decide +kernel
theorem dX5_measure_93 : decode cX5_measure 93 = .ok (.isub, 1) := by decide +kernel
theorem dX5_measure_94 : decode cX5_measure 94 = .ok (.invokestatic 55, 3) := by decide +kernel
theorem dX5_measure_97 : decode cX5_measure 97 = .ok (.istore 8, 2) := by decide +kernel
theorem dX5_measure_99 : decode cX5_measure 99 = .ok (.iload 9, 2) := by decide +kernel
theorem dX5_measure_101 : decode cX5_measure 101 = .ok (.aload_n 0, 1) := by decide +kernel
theorem dX5_measure_102 : decode cX5_measure 102 = .ok (.getfield 36, 3) := by decide +kernel
theorem dX5_measure_105 : decode cX5_measure 105 = .ok (.getfield 58, 3) := by decide +kernel
theorem dX5_measure_108 : decode cX5_measure 108 = .ok (.iload_n 1, 1) := by decide +kernel
theorem dX5_measure_109 : decode cX5_measure 109 = .ok (.aaload, 1) := by decide +kernel
theorem dX5_measure_110 : decode cX5_measure 110 = .ok (.iload 13, 2) := by decide +kernel
theorem dX5_measure_112 : decode cX5_measure 112 = .ok (.iaload, 1) := by decide +kernel
theorem dX5_measure_113 : decode cX5_measure 113 = .ok (.invokestatic 55, 3) := by decide +kernel
theorem dX5_measure_116 : decode cX5_measure 116 = .ok (.istore 9, 2) := by decide +kernel
theorem dX5_measure_118 : decode cX5_measure 118 = .ok (.iload 10, 2) := by decide +kernel
theorem dX5_measure_120 : decode cX5_measure 120 = .ok (.aload_n 0, 1) := by decide +kernel
theorem dX5_measure_121 : decode cX5_measure 121 = .ok (.getfield 36, 3) := by decide +kernel
theorem dX5_measure_124 : decode cX5_measure 124 = .ok (.getfield 61, 3) := by decide +kernel
theorem dX5_measure_127 : decode cX5_measure 127 = .ok (.iload_n 1, 1) := by decide +kernel
theorem dX5_measure_128 : decode cX5_measure 128 = .ok (.aaload, 1) := by decide +kernel
theorem dX5_measure_129 : decode cX5_measure 129 = .ok (.iload 13, 2) := by decide +kernel
theorem dX5_measure_131 : decode cX5_measure 131 = .ok (.iaload, 1) := by decide +kernel
theorem dX5_measure_132 : decode cX5_measure 132 = .ok (.invokestatic 55, 3) := by decide +kernel
theorem dX5_measure_135 : decode cX5_measure 135 = .ok (.istore 10, 2) := by decide +kernel
theorem dX5_measure_137 : decode cX5_measure 137 = .ok (.iload 11, 2) := by decide +kernel
theorem dX5_measure_139 : decode cX5_measure 139 = .ok (.aload_n 0, 1) := by decide +kernel
theorem dX5_measure_140 : decode cX5_measure 140 = .ok (.getfield 36, 3) := by decide +kernel
theorem dX5_measure_143 : decode cX5_measure 143 = .ok (.getfield 58, 3) := by decide +kernel
theorem dX5_measure_146 : decode cX5_measure 146 = .ok (.iload_n 1, 1) := by decide +kernel
theorem dX5_measure_147 : decode cX5_measure 147 = .ok (.aaload, 1) := by decide +kernel
theorem dX5_measure_148 : decode cX5_measure 148 = .ok (.iload 13, 2) := by decide +kernel
theorem dX5_measure_150 : decode cX5_measure 150 = .ok (.iaload, 1) := by decide +kernel
theorem dX5_measure_151 : decode cX5_measure 151 = .ok (.iadd, 1) := by decide +kernel
theorem dX5_measure_152 : decode cX5_measure 152 = .ok (.istore 11, 2) := by decide +kernel
theorem dX5_measure_154 : decode cX5_measure 154 = .ok (.aload_n 0, 1) := by decide +kernel
theorem dX5_measure_155 : decode cX5_measure 155 = .ok (.aload_n 0, 1) := by decide +kernel
theorem dX5_measure_156 : decode cX5_measure 156 = .ok (.getfield 21, 3) := by decide +kernel
theorem dX5_measure_159 : decode cX5_measure 159 = .ok (.aload_n 0, 1) := by decide +kernel
theorem dX5_measure_160 : decode cX5_measure 160 = .ok (.getfield 36, 3) := by decide +kernel
theorem dX5_measure_163 : decode cX5_measure 163 = .ok (.iload_n 1, 1) := by decide +kernel
theorem dX5_measure_164 : decode cX5_measure 164 = .ok (.iload 13, 2) := by decide +kernel
theorem dX5_measure_166 : decode cX5_measure 166 = .ok (.invokevirtual 64, 3) := by decide +kernel
theorem dX5_measure_169 : decode cX5_measure 169 = .ok (.invokestatic 55, 3) := by decide +kernel
theorem dX5_measure_172 : decode cX5_measure 172 = .ok (.putfield 21, 3) := by decide +kernel
theorem dX5_measure_175 : decode cX5_measure 175 = .ok (.iload 13, 2) := by decide +kernel
theorem dX5_measure_177 : decode cX5_measure 177 = .ok (.istore 7, 2) := by decide +kernel
theorem dX5_measure_179 : decode cX5_measure 179 = .ok (.iinc 12 1, 3) := by decide +kernel
theorem dX5_measure_182 : decode cX5_measure 182 = .ok (.goto (-109), 3) := by decide +kernel
theorem dX5_measure_185 : decode cX5_measure 185 = .ok (.aload_n 0, 1) := by decide +kernel
theorem dX5_measure_186 : decode cX5_measure 186 = .ok (.aload 4, 2) := by decide +kernel
theorem dX5_measure_188 : decode cX5_measure 188 = .ok (.iload 5, 2) := by decide +kernel
theorem dX5_measure_190 : decode cX5_measure 190 = .ok (.iaload, 1) := by decide +kernel
theorem dX5_measure_191 : decode cX5_measure 191 = .ok (.putfield 9, 3) := by decide +kernel
theorem dX5_measure_194 : decode cX5_measure 194 = .ok (.aload_n 0, 1) := by decide +kernel
theorem dX5_measure_195 : decode cX5_measure 195 = .ok (.iload 7, 2) := by decide +kernel
theorem dX5_measure_197 : decode cX5_measure 197 = .ok (.putfield 15, 3) := by decide +kernel
theorem dX5_measure_200 : decode cX5_measure 200 = .ok (.aload_n 0, 1) := by decide +kernel
theorem dX5_measure_201 : decode cX5_measure 201 = .ok (.iload 6, 2) := by decide +kernel
theorem dX5_measure_203 : decode cX5_measure 203 = .ok (.iload 5, 2) := by decide +kernel
theorem dX5_measure_205 : decode cX5_measure 205 = .ok (.isub, 1) := by decide +kernel
theorem dX5_measure_206 : decode cX5_measure 206 = .ok (.putfield 18, 3) := by decide +kernel
theorem dX5_measure_209 : decode cX5_measure 209 = .ok (.aload_n 0, 1) := by decide +kernel
theorem dX5_measure_210 : decode cX5_measure 210 = .ok (.iload 8, 2) := by decide +kernel
theorem dX5_measure_212 : decode cX5_measure 212 = .ok (.invokestatic 67, 3) := by decide +kernel
theorem dX5_measure_215 : decode cX5_measure 215 = .ok (.putfield 27, 3) := by decide +kernel
theorem dX5_measure_218 : decode cX5_measure 218 = .ok (.aload_n 0, 1) := by decide +kernel
theorem dX5_measure_219 : decode cX5_measure 219 = .ok (.iload 9, 2) := by decide +kernel
theorem dX5_measure_221 : decode cX5_measure 221 = .ok (.invokestatic 67, 3) := by decide +kernel
theorem dX5_measure_224 : decode cX5_measure 224 = .ok (.putfield 30, 3) := by decide +kernel
theorem dX5_measure_227 : decode cX5_measure 227 = .ok (.aload_n 0, 1) := by decide +kernel
theorem dX5_measure_228 : decode cX5_measure 228 = .ok (.iload 10, 2) := by decide +kernel
theorem dX5_measure_230 : decode cX5_measure 230 = .ok (.invokestatic 67, 3) := by decide +kernel
theorem dX5_measure_233 : decode cX5_measure 233 = .ok (.putfield 33, 3) := by decide +kernel
theorem dX5_measure_236 : decode cX5_measure 236 = .ok (.aload_n 0, 1) := by decide +kernel
theorem dX5_measure_237 : decode cX5_measure 237 = .ok (.bipush 32, 2) := by decide +kernel
theorem dX5_measure_239 : decode cX5_measure 239 = .ok (.aload_n 0, 1) := by decide +kernel
theorem dX5_measure_240 : decode cX5_measure 240 = .ok (.getfield 18, 3) := by decide +kernel
theorem dX5_measure_243 : decode cX5_measure 243 = .ok (.aload_n 0, 1) := by decide +kernel
theorem dX5_measure_244 : decode cX5_measure 244 = .ok (.getfield 27, 3) := by decide +kernel
theorem dX5_measure_247 : decode cX5_measure 247 = .ok (.aload_n 0, 1) := by decide +kernel
theorem dX5_measure_248 : decode cX5_measure 248 = .ok (.getfield 30, 3) := by decide +kernel
theorem dX5_measure_251 : decode cX5_measure 251 = .ok (.iadd, 1) := by decide +kernel
theorem dX5_measure_252 : decode cX5_measure 252 = .ok (.imul, 1) := by decide +kernel
theorem dX5_measure_253 : decode cX5_measure 253 = .ok (.iadd, 1) := by decide +kernel
theorem dX5_measure_254 : decode cX5_measure 254 = .ok (.iload 11, 2) := by decide +kernel
theorem dX5_measure_256 : decode cX5_measure 256 = .ok (.aload_n 0, 1) := by decide +kernel
theorem dX5_measure_257 : decode cX5_measure 257 = .ok (.getfield 33, 3) := by decide +kernel
theorem dX5_measure_260 : decode cX5_measure 260 = .ok (.imul, 1) := by decide +kernel
theorem dX5_measure_261 : decode cX5_measure 261 = .ok (.iadd, 1) := by decide +kernel
theorem dX5_measure_262 : decode cX5_measure 262 = .ok (.putfield 24, 3) := by decide +kernel
theorem dX5_measure_265 : decode cX5_measure 265 = .ok (.return_, 1) := by decide +kernel
theorem dX5_widthOf_0 : decode cX5_widthOf 0 = .ok (.iconst 0, 1) := by decide +kernel
theorem dX5_widthOf_1 : decode cX5_widthOf 1 = .ok (.istore_n 1, 1) := by decide +kernel
theorem dX5_widthOf_2 : decode cX5_widthOf 2 = .ok (.iload_n 0, 1) := by decide +kernel
theorem dX5_widthOf_3 : decode cX5_widthOf 3 = .ok (.istore_n 2, 1) := by decide +kernel
theorem dX5_widthOf_4 : decode cX5_widthOf 4 = .ok (.iload_n 2, 1) := by decide +kernel
theorem dX5_widthOf_5 : decode cX5_widthOf 5 = .ok (.ifCond .le 13, 3) := by decide +kernel
theorem dX5_widthOf_8 : decode cX5_widthOf 8 = .ok (.iinc 1 1, 3) := by decide +kernel
theorem dX5_widthOf_11 : decode cX5_widthOf 11 = .ok (.iload_n 2, 1) := by decide +kernel
theorem dX5_widthOf_12 : decode cX5_widthOf 12 = .ok (.iconst 2, 1) := by decide +kernel
theorem dX5_widthOf_13 : decode cX5_widthOf 13 = .ok (.idiv, 1) := by decide +kernel
theorem dX5_widthOf_14 : decode cX5_widthOf 14 = .ok (.istore_n 2, 1) := by decide +kernel
theorem dX5_widthOf_15 : decode cX5_widthOf 15 = .ok (.goto (-11), 3) := by decide +kernel
theorem dX5_widthOf_18 : decode cX5_widthOf 18 = .ok (.iload_n 1, 1) := by decide +kernel
theorem dX5_widthOf_19 : decode cX5_widthOf 19 = .ok (.ireturn, 1) := by decide +kernel
theorem dX5_bitsOf_0 : decode cX5_bitsOf 0 = .ok (.iconst 0, 1) := by decide +kernel
theorem dX5_bitsOf_1 : decode cX5_bitsOf 1 = .ok (.istore_n 3, 1) := by decide +kernel
theorem dX5_bitsOf_2 : decode cX5_bitsOf 2 = .ok (.aload_n 0, 1) := by decide +kernel
theorem dX5_bitsOf_3 : decode cX5_bitsOf 3 = .ok (.getfield 36, 3) := by decide +kernel
theorem dX5_bitsOf_6 : decode cX5_bitsOf 6 = .ok (.iload_n 1, 1) := by decide +kernel
theorem dX5_bitsOf_7 : decode cX5_bitsOf 7 = .ok (.iload_n 2, 1) := by decide +kernel
theorem dX5_bitsOf_8 : decode cX5_bitsOf 8 = .ok (.invokevirtual 71, 3) := by decide +kernel
theorem dX5_bitsOf_11 : decode cX5_bitsOf 11 = .ok (.istore 4, 2) := by decide +kernel
theorem dX5_bitsOf_13 : decode cX5_bitsOf 13 = .ok (.iconst 0, 1) := by decide +kernel
theorem dX5_bitsOf_14 : decode cX5_bitsOf 14 = .ok (.istore 5, 2) := by decide +kernel
theorem dX5_bitsOf_16 : decode cX5_bitsOf 16 = .ok (.iload 5, 2) := by decide +kernel
theorem dX5_bitsOf_18 : decode cX5_bitsOf 18 = .ok (.iload 4, 2) := by decide +kernel
theorem dX5_bitsOf_20 : decode cX5_bitsOf 20 = .ok (.if_icmp .ge 24, 3) := by decide +kernel
theorem dX5_bitsOf_23 : decode cX5_bitsOf 23 = .ok (.aload_n 0, 1) := by decide +kernel
theorem dX5_bitsOf_24 : decode cX5_bitsOf 24 = .ok (.iload_n 1, 1) := by decide +kernel
theorem dX5_bitsOf_25 : decode cX5_bitsOf 25 = .ok (.iload 5, 2) := by decide +kernel
theorem dX5_bitsOf_27 : decode cX5_bitsOf 27 = .ok (.iload_n 2, 1) := by decide +kernel
theorem dX5_bitsOf_28 : decode cX5_bitsOf 28 = .ok (.invokevirtual 74, 3) := by decide +kernel
theorem dX5_bitsOf_31 : decode cX5_bitsOf 31 = .ok (.iload_n 3, 1) := by decide +kernel
theorem dX5_bitsOf_32 : decode cX5_bitsOf 32 = .ok (.aload_n 0, 1) := by decide +kernel
theorem dX5_bitsOf_33 : decode cX5_bitsOf 33 = .ok (.getfield 24, 3) := by decide +kernel
theorem dX5_bitsOf_36 : decode cX5_bitsOf 36 = .ok (.iadd, 1) := by decide +kernel
theorem dX5_bitsOf_37 : decode cX5_bitsOf 37 = .ok (.istore_n 3, 1) := by decide +kernel
theorem dX5_bitsOf_38 : decode cX5_bitsOf 38 = .ok (.iinc 5 1, 3) := by decide +kernel
theorem dX5_bitsOf_41 : decode cX5_bitsOf 41 = .ok (.goto (-25), 3) := by decide +kernel
theorem dX5_bitsOf_44 : decode cX5_bitsOf 44 = .ok (.iload_n 3, 1) := by decide +kernel
theorem dX5_bitsOf_45 : decode cX5_bitsOf 45 = .ok (.ireturn, 1) := by decide +kernel
theorem dX5_allBits_0 : decode cX5_allBits 0 = .ok (.iconst 0, 1) := by decide +kernel
theorem dX5_allBits_1 : decode cX5_allBits 1 = .ok (.istore_n 2, 1) := by decide +kernel
theorem dX5_allBits_2 : decode cX5_allBits 2 = .ok (.iconst 0, 1) := by decide +kernel
theorem dX5_allBits_3 : decode cX5_allBits 3 = .ok (.istore_n 3, 1) := by decide +kernel
theorem dX5_allBits_4 : decode cX5_allBits 4 = .ok (.iload_n 3, 1) := by decide +kernel
theorem dX5_allBits_5 : decode cX5_allBits 5 = .ok (.aload_n 0, 1) := by decide +kernel
theorem dX5_allBits_6 : decode cX5_allBits 6 = .ok (.getfield 36, 3) := by decide +kernel
theorem dX5_allBits_9 : decode cX5_allBits 9 = .ok (.getfield 78, 3) := by decide +kernel
theorem dX5_allBits_12 : decode cX5_allBits 12 = .ok (.getfield 82, 3) := by decide +kernel
theorem dX5_allBits_15 : decode cX5_allBits 15 = .ok (.if_icmp .ge 18, 3) := by decide +kernel
theorem dX5_allBits_18 : decode cX5_allBits 18 = .ok (.iload_n 2, 1) := by decide +kernel
theorem dX5_allBits_19 : decode cX5_allBits 19 = .ok (.aload_n 0, 1) := by decide +kernel
theorem dX5_allBits_20 : decode cX5_allBits 20 = .ok (.iload_n 3, 1) := by decide +kernel
theorem dX5_allBits_21 : decode cX5_allBits 21 = .ok (.iload_n 1, 1) := by decide +kernel
theorem dX5_allBits_22 : decode cX5_allBits 22 = .ok (.invokevirtual 87, 3) := by decide +kernel
theorem dX5_allBits_25 : decode cX5_allBits 25 = .ok (.iadd, 1) := by decide +kernel
theorem dX5_allBits_26 : decode cX5_allBits 26 = .ok (.istore_n 2, 1) := by decide +kernel
theorem dX5_allBits_27 : decode cX5_allBits 27 = .ok (.iinc 3 1, 3) := by decide +kernel
theorem dX5_allBits_30 : decode cX5_allBits 30 = .ok (.goto (-26), 3) := by decide +kernel
theorem dX5_allBits_33 : decode cX5_allBits 33 = .ok (.iload_n 2, 1) := by decide +kernel
theorem dX5_allBits_34 : decode cX5_allBits 34 = .ok (.ireturn, 1) := by decide +kernel
theorem dX5_allBlocks_0 : decode cX5_allBlocks 0 = .ok (.iconst 0, 1) := by decide +kernel
theorem dX5_allBlocks_1 : decode cX5_allBlocks 1 = .ok (.istore_n 2, 1) := by decide +kernel
theorem dX5_allBlocks_2 : decode cX5_allBlocks 2 = .ok (.iconst 0, 1) := by decide +kernel
theorem dX5_allBlocks_3 : decode cX5_allBlocks 3 = .ok (.istore_n 3, 1) := by decide +kernel
theorem dX5_allBlocks_4 : decode cX5_allBlocks 4 = .ok (.iload_n 3, 1) := by decide +kernel
theorem dX5_allBlocks_5 : decode cX5_allBlocks 5 = .ok (.aload_n 0, 1) := by decide +kernel
theorem dX5_allBlocks_6 : decode cX5_allBlocks 6 = .ok (.getfield 36, 3) := by decide +kernel
theorem dX5_allBlocks_9 : decode cX5_allBlocks 9 = .ok (.getfield 78, 3) := by decide +kernel
theorem dX5_allBlocks_12 : decode cX5_allBlocks 12 = .ok (.getfield 82, 3) := by decide +kernel
theorem dX5_allBlocks_15 : decode cX5_allBlocks 15 = .ok (.if_icmp .ge 21, 3) := by decide +kernel
theorem dX5_allBlocks_18 : decode cX5_allBlocks 18 = .ok (.iload_n 2, 1) := by decide +kernel
theorem dX5_allBlocks_19 : decode cX5_allBlocks 19 = .ok (.aload_n 0, 1) := by decide +kernel
theorem dX5_allBlocks_20 : decode cX5_allBlocks 20 = .ok (.getfield 36, 3) := by decide +kernel
theorem dX5_allBlocks_23 : decode cX5_allBlocks 23 = .ok (.iload_n 3, 1) := by decide +kernel
theorem dX5_allBlocks_24 : decode cX5_allBlocks 24 = .ok (.iload_n 1, 1) := by decide +kernel
theorem dX5_allBlocks_25 : decode cX5_allBlocks 25 = .ok (.invokevirtual 71, 3) := by decide +kernel
theorem dX5_allBlocks_28 : decode cX5_allBlocks 28 = .ok (.iadd, 1) := by decide +kernel
theorem dX5_allBlocks_29 : decode cX5_allBlocks 29 = .ok (.istore_n 2, 1) := by decide +kernel
theorem dX5_allBlocks_30 : decode cX5_allBlocks 30 = .ok (.iinc 3 1, 3) := by decide +kernel
theorem dX5_allBlocks_33 : decode cX5_allBlocks 33 = .ok (.goto (-29), 3) := by decide +kernel
theorem dX5_allBlocks_36 : decode cX5_allBlocks 36 = .ok (.iload_n 2, 1) := by decide +kernel
theorem dX5_allBlocks_37 : decode cX5_allBlocks 37 = .ok (.ireturn, 1) := by decide +kernel
theorem dX6_init_0 : decode cX6_init 0 = .ok (.aload_n 0, 1) := by decide +kernel
theorem dX6_init_1 : decode cX6_init 1 = .ok (.invokespecial 3, 3) := by decide +kernel
theorem dX6_init_4 : decode cX6_init 4 = .ok (.aload_n 0, 1) := by decide +kernel
theorem dX6_init_5 : decode cX6_init 5 = .ok (.iconst 0, 1) := by decide +kernel
theorem dX6_init_6 : decode cX6_init 6 = .ok (.putfield 9, 3) := by decide +kernel
theorem dX6_init_9 : decode cX6_init 9 = .ok (.aload_n 0, 1) := by decide +kernel
theorem dX6_init_10 : decode cX6_init 10 = .ok (.iconst 0, 1) := by decide +kernel
theorem dX6_init_11 : decode cX6_init 11 = .ok (.putfield 15, 3) := by decide +kernel
theorem dX6_init_14 : decode cX6_init 14 = .ok (.aload_n 0, 1) := by decide +kernel
theorem dX6_init_15 : decode cX6_init 15 = .ok (.bipush 24, 2) := by decide +kernel
theorem dX6_init_17 : decode cX6_init 17 = .ok (.newarray .int, 2) := by decide +kernel
theorem dX6_init_19 : decode cX6_init 19 = .ok (.putfield 18, 3) := by decide +kernel
theorem dX6_init_22 : decode cX6_init 22 = .ok (.aload_n 0, 1) := by decide +kernel
theorem dX6_init_23 : decode cX6_init 23 = .ok (.bipush 24, 2) := by decide +kernel
theorem dX6_init_25 : decode cX6_init 25 = .ok (.newarray .int, 2) := by decide +kernel
theorem dX6_init_27 : decode cX6_init 27 = .ok (.putfield 22, 3) := by decide +kernel
theorem dX6_init_30 : decode cX6_init 30 = .ok (.aload_n 0, 1) := by decide +kernel
theorem dX6_init_31 : decode cX6_init 31 = .ok (.bipush 24, 2) := by decide +kernel
theorem dX6_init_33 : decode cX6_init 33 = .ok (.newarray .boolean, 2) := by decide +kernel
theorem dX6_init_35 : decode cX6_init 35 = .ok (.putfield 25, 3) := by decide +kernel
theorem dX6_init_38 : decode cX6_init 38 = .ok (.aload_n 0, 1) := by decide +kernel
theorem dX6_init_39 : decode cX6_init 39 = .ok (.iconst 0, 1) := by decide +kernel
theorem dX6_init_40 : decode cX6_init 40 = .ok (.putfield 29, 3) := by decide +kernel
theorem dX6_init_43 : decode cX6_init 43 = .ok (.aload_n 0, 1) := by decide +kernel
theorem dX6_init_44 : decode cX6_init 44 = .ok (.iconst 0, 1) := by decide +kernel
theorem dX6_init_45 : decode cX6_init 45 = .ok (.putfield 33, 3) := by decide +kernel
theorem dX6_init_48 : decode cX6_init 48 = .ok (.aload_n 0, 1) := by decide +kernel
theorem dX6_init_49 : decode cX6_init 49 = .ok (.bipush 6, 2) := by decide +kernel
theorem dX6_init_51 : decode cX6_init 51 = .ok (.newarray .int, 2) := by decide +kernel
theorem dX6_init_53 : decode cX6_init 53 = .ok (.putfield 36, 3) := by decide +kernel
theorem dX6_init_56 : decode cX6_init 56 = .ok (.aload_n 0, 1) := by decide +kernel
theorem dX6_init_57 : decode cX6_init 57 = .ok (.iconst 0, 1) := by decide +kernel
theorem dX6_init_58 : decode cX6_init 58 = .ok (.putfield 39, 3) := by decide +kernel
theorem dX6_init_61 : decode cX6_init 61 = .ok (.aload_n 0, 1) := by decide +kernel
theorem dX6_init_62 : decode cX6_init 62 = .ok (.bipush 6, 2) := by decide +kernel
theorem dX6_init_64 : decode cX6_init 64 = .ok (.newarray .int, 2) := by decide +kernel
theorem dX6_init_66 : decode cX6_init 66 = .ok (.putfield 42, 3) := by decide +kernel
theorem dX6_init_69 : decode cX6_init 69 = .ok (.aload_n 0, 1) := by decide +kernel
theorem dX6_init_70 : decode cX6_init 70 = .ok (.bipush 6, 2) := by decide +kernel
theorem dX6_init_72 : decode cX6_init 72 = .ok (.iconst 4, 1) := by decide +kernel
theorem dX6_init_73 : decode cX6_init 73 = .ok (.multianewarray 45 2, 4) := by decide +kernel
theorem dX6_init_77 : decode cX6_init 77 = .ok (.putfield 47, 3) := by decide +kernel
theorem dX6_init_80 : decode cX6_init 80 = .ok (.aload_n 0, 1) := by decide +kernel
theorem dX6_init_81 : decode cX6_init 81 = .ok (.iconst 0, 1) := by decide +kernel
theorem dX6_init_82 : decode cX6_init 82 = .ok (.putfield 50, 3) := by decide +kernel
theorem dX6_init_85 : decode cX6_init 85 = .ok (.return_, 1) := by decide +kernel
theorem dX6_hasScored_0 : decode cX6_hasScored 0 = .ok (.iload_n 1, 1) := by decide +kernel
theorem dX6_hasScored_1 : decode cX6_hasScored 1 = .ok (.ifCond .lt 15, 3) := by decide +kernel
theorem dX6_hasScored_4 : decode cX6_hasScored 4 = .ok (.iload_n 1, 1) := by decide +kernel
theorem dX6_hasScored_5 : decode cX6_hasScored 5 = .ok (.aload_n 0, 1) := by decide +kernel
theorem dX6_hasScored_6 : decode cX6_hasScored 6 = .ok (.getfield 15, 3) := by decide +kernel
theorem dX6_hasScored_9 : decode cX6_hasScored 9 = .ok (.if_icmp .ge 7, 3) := by decide +kernel
theorem dX6_hasScored_12 : decode cX6_hasScored 12 = .ok (.iconst 1, 1) := by decide +kernel
theorem dX6_hasScored_13 : decode cX6_hasScored 13 = .ok (.goto 4, 3) := by decide +kernel
theorem dX6_hasScored_16 : decode cX6_hasScored 16 = .ok (.iconst 0, 1) := by decide +kernel
theorem dX6_hasScored_17 : decode cX6_hasScored 17 = .ok (.ireturn, 1) := by decide +kernel
theorem dX6_clear_0 : decode cX6_clear 0 = .ok (.aload_n 0, 1) := by decide +kernel
theorem dX6_clear_1 : decode cX6_clear 1 = .ok (.iconst 0, 1) := by decide +kernel
theorem dX6_clear_2 : decode cX6_clear 2 = .ok (.putfield 9, 3) := by decide +kernel
theorem dX6_clear_5 : decode cX6_clear 5 = .ok (.aload_n 0, 1) := by decide +kernel
theorem dX6_clear_6 : decode cX6_clear 6 = .ok (.iconst 0, 1) := by decide +kernel
theorem dX6_clear_7 : decode cX6_clear 7 = .ok (.putfield 15, 3) := by decide +kernel
theorem dX6_clear_10 : decode cX6_clear 10 = .ok (.aload_n 0, 1) := by decide +kernel
theorem dX6_clear_11 : decode cX6_clear 11 = .ok (.iconst 0, 1) := by decide +kernel
theorem dX6_clear_12 : decode cX6_clear 12 = .ok (.putfield 29, 3) := by decide +kernel
theorem dX6_clear_15 : decode cX6_clear 15 = .ok (.aload_n 0, 1) := by decide +kernel
theorem dX6_clear_16 : decode cX6_clear 16 = .ok (.iconst 0, 1) := by decide +kernel
theorem dX6_clear_17 : decode cX6_clear 17 = .ok (.putfield 33, 3) := by decide +kernel
theorem dX6_clear_20 : decode cX6_clear 20 = .ok (.aload_n 0, 1) := by decide +kernel
theorem dX6_clear_21 : decode cX6_clear 21 = .ok (.iconst 0, 1) := by decide +kernel
theorem dX6_clear_22 : decode cX6_clear 22 = .ok (.putfield 39, 3) := by decide +kernel
theorem dX6_clear_25 : decode cX6_clear 25 = .ok (.aload_n 0, 1) := by decide +kernel
theorem dX6_clear_26 : decode cX6_clear 26 = .ok (.iconst 0, 1) := by decide +kernel
theorem dX6_clear_27 : decode cX6_clear 27 = .ok (.putfield 50, 3) := by decide +kernel
theorem dX6_clear_30 : decode cX6_clear 30 = .ok (.return_, 1) := by decide +kernel
theorem dX6_copyFrom_0 : decode cX6_copyFrom 0 = .ok (.aload_n 0, 1) := by decide +kernel
theorem dX6_copyFrom_1 : decode cX6_copyFrom 1 = .ok (.aload_n 1, 1) := by decide +kernel
theorem dX6_copyFrom_2 : decode cX6_copyFrom 2 = .ok (.getfield 9, 3) := by decide +kernel
theorem dX6_copyFrom_5 : decode cX6_copyFrom 5 = .ok (.putfield 9, 3) := by decide +kernel
theorem dX6_copyFrom_8 : decode cX6_copyFrom 8 = .ok (.aload_n 0, 1) := by decide +kernel
theorem dX6_copyFrom_9 : decode cX6_copyFrom 9 = .ok (.aload_n 1, 1) := by decide +kernel
theorem dX6_copyFrom_10 : decode cX6_copyFrom 10 = .ok (.getfield 15, 3) := by decide +kernel
theorem dX6_copyFrom_13 : decode cX6_copyFrom 13 = .ok (.putfield 15, 3) := by decide +kernel
theorem dX6_copyFrom_16 : decode cX6_copyFrom 16 = .ok (.aload_n 0, 1) := by decide +kernel
theorem dX6_copyFrom_17 : decode cX6_copyFrom 17 = .ok (.aload_n 1, 1) := by decide +kernel
theorem dX6_copyFrom_18 : decode cX6_copyFrom 18 = .ok (.getfield 29, 3) := by decide +kernel
theorem dX6_copyFrom_21 : decode cX6_copyFrom 21 = .ok (.putfield 29, 3) := by decide +kernel
theorem dX6_copyFrom_24 : decode cX6_copyFrom 24 = .ok (.aload_n 0, 1) := by decide +kernel
theorem dX6_copyFrom_25 : decode cX6_copyFrom 25 = .ok (.aload_n 1, 1) := by decide +kernel
theorem dX6_copyFrom_26 : decode cX6_copyFrom 26 = .ok (.getfield 33, 3) := by decide +kernel
theorem dX6_copyFrom_29 : decode cX6_copyFrom 29 = .ok (.putfield 33, 3) := by decide +kernel
theorem dX6_copyFrom_32 : decode cX6_copyFrom 32 = .ok (.aload_n 0, 1) := by decide +kernel
theorem dX6_copyFrom_33 : decode cX6_copyFrom 33 = .ok (.aload_n 1, 1) := by decide +kernel
theorem dX6_copyFrom_34 : decode cX6_copyFrom 34 = .ok (.getfield 39, 3) := by decide +kernel
theorem dX6_copyFrom_37 : decode cX6_copyFrom 37 = .ok (.putfield 39, 3) := by decide +kernel
theorem dX6_copyFrom_40 : decode cX6_copyFrom 40 = .ok (.aload_n 0, 1) := by decide +kernel
theorem dX6_copyFrom_41 : decode cX6_copyFrom 41 = .ok (.aload_n 1, 1) := by decide +kernel
theorem dX6_copyFrom_42 : decode cX6_copyFrom 42 = .ok (.getfield 50, 3) := by decide +kernel
theorem dX6_copyFrom_45 : decode cX6_copyFrom 45 = .ok (.putfield 50, 3) := by decide +kernel
theorem dX6_copyFrom_48 : decode cX6_copyFrom 48 = .ok (.iconst 0, 1) := by decide +kernel
theorem dX6_copyFrom_49 : decode cX6_copyFrom 49 = .ok (.istore_n 2, 1) := by decide +kernel
theorem dX6_copyFrom_50 : decode cX6_copyFrom 50 = .ok (.iload_n 2, 1) := by decide +kernel
theorem dX6_copyFrom_51 : decode cX6_copyFrom 51 = .ok (.aload_n 0, 1) := by decide +kernel
theorem dX6_copyFrom_52 : decode cX6_copyFrom 52 = .ok (.getfield 15, 3) := by decide +kernel
theorem dX6_copyFrom_55 : decode cX6_copyFrom 55 = .ok (.if_icmp .ge 45, 3) := by decide +kernel
theorem dX6_copyFrom_58 : decode cX6_copyFrom 58 = .ok (.aload_n 0, 1) := by decide +kernel
theorem dX6_copyFrom_59 : decode cX6_copyFrom 59 = .ok (.getfield 18, 3) := by decide +kernel
theorem dX6_copyFrom_62 : decode cX6_copyFrom 62 = .ok (.iload_n 2, 1) := by decide +kernel
theorem dX6_copyFrom_63 : decode cX6_copyFrom 63 = .ok (.aload_n 1, 1) := by decide +kernel
theorem dX6_copyFrom_64 : decode cX6_copyFrom 64 = .ok (.getfield 18, 3) := by decide +kernel
theorem dX6_copyFrom_67 : decode cX6_copyFrom 67 = .ok (.iload_n 2, 1) := by decide +kernel
theorem dX6_copyFrom_68 : decode cX6_copyFrom 68 = .ok (.iaload, 1) := by decide +kernel
theorem dX6_copyFrom_69 : decode cX6_copyFrom 69 = .ok (.iastore, 1) := by decide +kernel
theorem dX6_copyFrom_70 : decode cX6_copyFrom 70 = .ok (.aload_n 0, 1) := by decide +kernel
theorem dX6_copyFrom_71 : decode cX6_copyFrom 71 = .ok (.getfield 22, 3) := by decide +kernel
theorem dX6_copyFrom_74 : decode cX6_copyFrom 74 = .ok (.iload_n 2, 1) := by decide +kernel
theorem dX6_copyFrom_75 : decode cX6_copyFrom 75 = .ok (.aload_n 1, 1) := by decide +kernel
theorem dX6_copyFrom_76 : decode cX6_copyFrom 76 = .ok (.getfield 22, 3) := by decide +kernel
theorem dX6_copyFrom_79 : decode cX6_copyFrom 79 = .ok (.iload_n 2, 1) := by decide +kernel
theorem dX6_copyFrom_80 : decode cX6_copyFrom 80 = .ok (.iaload, 1) := by decide +kernel
theorem dX6_copyFrom_81 : decode cX6_copyFrom 81 = .ok (.iastore, 1) := by decide +kernel
theorem dX6_copyFrom_82 : decode cX6_copyFrom 82 = .ok (.aload_n 0, 1) := by decide +kernel
theorem dX6_copyFrom_83 : decode cX6_copyFrom 83 = .ok (.getfield 25, 3) := by decide +kernel
theorem dX6_copyFrom_86 : decode cX6_copyFrom 86 = .ok (.iload_n 2, 1) := by decide +kernel
theorem dX6_copyFrom_87 : decode cX6_copyFrom 87 = .ok (.aload_n 1, 1) := by decide +kernel
theorem dX6_copyFrom_88 : decode cX6_copyFrom 88 = .ok (.getfield 25, 3) := by decide +kernel
theorem dX6_copyFrom_91 : decode cX6_copyFrom 91 = .ok (.iload_n 2, 1) := by decide +kernel
theorem dX6_copyFrom_92 : decode cX6_copyFrom 92 = .ok (.baload, 1) := by decide +kernel
theorem dX6_copyFrom_93 : decode cX6_copyFrom 93 = .ok (.bastore, 1) := by decide +kernel
theorem dX6_copyFrom_94 : decode cX6_copyFrom 94 = .ok (.iinc 2 1, 3) := by decide +kernel
theorem dX6_copyFrom_97 : decode cX6_copyFrom 97 = .ok (.goto (-47), 3) := by decide +kernel
theorem dX6_copyFrom_100 : decode cX6_copyFrom 100 = .ok (.iconst 0, 1) := by decide +kernel
theorem dX6_copyFrom_101 : decode cX6_copyFrom 101 = .ok (.istore_n 2, 1) := by decide +kernel
theorem dX6_copyFrom_102 : decode cX6_copyFrom 102 = .ok (.iload_n 2, 1) := by decide +kernel
theorem dX6_copyFrom_103 : decode cX6_copyFrom 103 = .ok (.bipush 6, 2) := by decide +kernel
theorem dX6_copyFrom_105 : decode cX6_copyFrom 105 = .ok (.if_icmp .ge 62, 3) := by decide +kernel
theorem dX6_copyFrom_108 : decode cX6_copyFrom 108 = .ok (.aload_n 0, 1) := by decide +kernel
theorem dX6_copyFrom_109 : decode cX6_copyFrom 109 = .ok (.getfield 36, 3) := by decide +kernel
theorem dX6_copyFrom_112 : decode cX6_copyFrom 112 = .ok (.iload_n 2, 1) := by decide +kernel
theorem dX6_copyFrom_113 : decode cX6_copyFrom 113 = .ok (.aload_n 1, 1) := by decide +kernel
theorem dX6_copyFrom_114 : decode cX6_copyFrom 114 = .ok (.getfield 36, 3) := by decide +kernel
theorem dX6_copyFrom_117 : decode cX6_copyFrom 117 = .ok (.iload_n 2, 1) := by decide +kernel
theorem dX6_copyFrom_118 : decode cX6_copyFrom 118 = .ok (.iaload, 1) := by decide +kernel
theorem dX6_copyFrom_119 : decode cX6_copyFrom 119 = .ok (.iastore, 1) := by decide +kernel
theorem dX6_copyFrom_120 : decode cX6_copyFrom 120 = .ok (.aload_n 0, 1) := by decide +kernel
theorem dX6_copyFrom_121 : decode cX6_copyFrom 121 = .ok (.getfield 42, 3) := by decide +kernel
theorem dX6_copyFrom_124 : decode cX6_copyFrom 124 = .ok (.iload_n 2, 1) := by decide +kernel
theorem dX6_copyFrom_125 : decode cX6_copyFrom 125 = .ok (.aload_n 1, 1) := by decide +kernel
theorem dX6_copyFrom_126 : decode cX6_copyFrom 126 = .ok (.getfield 42, 3) := by decide +kernel
theorem dX6_copyFrom_129 : decode cX6_copyFrom 129 = .ok (.iload_n 2, 1) := by decide +kernel
theorem dX6_copyFrom_130 : decode cX6_copyFrom 130 = .ok (.iaload, 1) := by decide +kernel
theorem dX6_copyFrom_131 : decode cX6_copyFrom 131 = .ok (.iastore, 1) := by decide +kernel
theorem dX6_copyFrom_132 : decode cX6_copyFrom 132 = .ok (.iconst 0, 1) := by decide +kernel
theorem dX6_copyFrom_133 : decode cX6_copyFrom 133 = .ok (.istore_n 3, 1) := by decide +kernel
theorem dX6_copyFrom_134 : decode cX6_copyFrom 134 = .ok (.iload_n 3, 1) := by decide +kernel
theorem dX6_copyFrom_135 : decode cX6_copyFrom 135 = .ok (.iconst 4, 1) := by decide +kernel
theorem dX6_copyFrom_136 : decode cX6_copyFrom 136 = .ok (.if_icmp .ge 25, 3) := by decide +kernel
theorem dX6_copyFrom_139 : decode cX6_copyFrom 139 = .ok (.aload_n 0, 1) := by decide +kernel
theorem dX6_copyFrom_140 : decode cX6_copyFrom 140 = .ok (.getfield 47, 3) := by decide +kernel
theorem dX6_copyFrom_143 : decode cX6_copyFrom 143 = .ok (.iload_n 2, 1) := by decide +kernel
theorem dX6_copyFrom_144 : decode cX6_copyFrom 144 = .ok (.aaload, 1) := by decide +kernel
theorem dX6_copyFrom_145 : decode cX6_copyFrom 145 = .ok (.iload_n 3, 1) := by decide +kernel
theorem dX6_copyFrom_146 : decode cX6_copyFrom 146 = .ok (.aload_n 1, 1) := by decide +kernel
theorem dX6_copyFrom_147 : decode cX6_copyFrom 147 = .ok (.getfield 47, 3) := by decide +kernel
theorem dX6_copyFrom_150 : decode cX6_copyFrom 150 = .ok (.iload_n 2, 1) := by decide +kernel
theorem dX6_copyFrom_151 : decode cX6_copyFrom 151 = .ok (.aaload, 1) := by decide +kernel
theorem dX6_copyFrom_152 : decode cX6_copyFrom 152 = .ok (.iload_n 3, 1) := by decide +kernel
theorem dX6_copyFrom_153 : decode cX6_copyFrom 153 = .ok (.iaload, 1) := by decide +kernel
theorem dX6_copyFrom_154 : decode cX6_copyFrom 154 = .ok (.iastore, 1) := by decide +kernel
theorem dX6_copyFrom_155 : decode cX6_copyFrom 155 = .ok (.iinc 3 1, 3) := by decide +kernel
theorem dX6_copyFrom_158 : decode cX6_copyFrom 158 = .ok (.goto (-24), 3) := by decide +kernel
theorem dX6_copyFrom_161 : decode cX6_copyFrom 161 = .ok (.iinc 2 1, 3) := by decide +kernel
theorem dX6_copyFrom_164 : decode cX6_copyFrom 164 = .ok (.goto (-62), 3) := by decide +kernel
theorem dX6_copyFrom_167 : decode cX6_copyFrom 167 = .ok (.return_, 1) := by decide +kernel
theorem dX6_want_0 : decode cX6_want 0 = .ok (.iload_n 1, 1) := by decide +kernel
theorem dX6_want_1 : decode cX6_want 1 = .ok (.iconst (-1), 1) := by decide +kernel
theorem dX6_want_2 : decode cX6_want 2 = .ok (.if_icmp .ne 24, 3) := by decide +kernel
theorem dX6_want_5 : decode cX6_want 5 = .ok (.aload_n 0, 1) := by decide +kernel
theorem dX6_want_6 : decode cX6_want 6 = .ok (.aload_n 0, 1) := by decide +kernel
theorem dX6_want_7 : decode cX6_want 7 = .ok (.getfield 29, 3) := by decide +kernel
theorem dX6_want_10 : decode cX6_want 10 = .ok (.ifCond .ne 7, 3) := by decide +kernel
theorem dX6_want_13 : decode cX6_want 13 = .ok (.iload_n 3, 1) := by decide +kernel
theorem dX6_want_14 : decode cX6_want 14 = .ok (.ifCond .eq 7, 3) := by decide +kernel
theorem dX6_want_17 : decode cX6_want 17 = .ok (.iconst 1, 1) := by decide +kernel
theorem dX6_want_18 : decode cX6_want 18 = .ok (.goto 4, 3) := by decide +kernel
theorem dX6_want_21 : decode cX6_want 21 = .ok (.iconst 0, 1) := by decide +kernel
theorem dX6_want_22 : decode cX6_want 22 = .ok (.putfield 29, 3) := by decide +kernel
theorem dX6_want_25 : decode cX6_want 25 = .ok (.return_, 1) := by decide +kernel
theorem dX6_want_26 : decode cX6_want 26 = .ok (.aload_n 0, 1) := by decide +kernel
theorem dX6_want_27 : decode cX6_want 27 = .ok (.iload_n 1, 1) := by decide +kernel
theorem dX6_want_28 : decode cX6_want 28 = .ok (.invokevirtual 53, 3) := by decide +kernel
theorem dX6_want_31 : decode cX6_want 31 = .ok (.istore 4, 2) := by decide +kernel
theorem dX6_want_33 : decode cX6_want 33 = .ok (.aload_n 0, 1) := by decide +kernel
theorem dX6_want_34 : decode cX6_want 34 = .ok (.getfield 22, 3) := by decide +kernel
theorem dX6_want_37 : decode cX6_want 37 = .ok (.iload 4, 2) := by decide +kernel
theorem dX6_want_39 : decode cX6_want 39 = .ok (.dup2, 1) := by decide +kernel
theorem dX6_want_40 : decode cX6_want 40 = .ok (.iaload, 1) := by decide +kernel
theorem dX6_want_41 : decode cX6_want 41 = .ok (.iload_n 2, 1) := by decide +kernel
theorem dX6_want_42 : decode cX6_want 42 = .ok (.iadd, 1) := by decide +kernel
theorem dX6_want_43 : decode cX6_want 43 = .ok (.iastore, 1) := by decide +kernel
theorem dX6_want_44 : decode cX6_want 44 = .ok (.aload_n 0, 1) := by decide +kernel
theorem dX6_want_45 : decode cX6_want 45 = .ok (.getfield 25, 3) := by decide +kernel
theorem dX6_want_48 : decode cX6_want 48 = .ok (.iload 4, 2) := by decide +kernel
theorem dX6_want_50 : decode cX6_want 50 = .ok (.aload_n 0, 1) := by decide +kernel
theorem dX6_want_51 : decode cX6_want 51 = .ok (.getfield 25, 3) := by decide +kernel
theorem dX6_want_54 : decode cX6_want 54 = .ok (.iload 4, 2) := by decide +kernel
theorem dX6_want_56 : decode cX6_want 56 = .ok (.baload, 1) := by decide +kernel
theorem dX6_want_57 : decode cX6_want 57 = .ok (.ifCond .ne 7, 3) := by decide +kernel
theorem dX6_want_60 : decode cX6_want 60 = .ok (.iload_n 3, 1) := by decide +kernel
theorem dX6_want_61 : decode cX6_want 61 = .ok (.ifCond .eq 7, 3) := by decide +kernel
theorem dX6_want_64 : decode cX6_want 64 = .ok (.iconst 1, 1) := by decide +kernel
theorem dX6_want_65 : decode cX6_want 65 = .ok (.goto 4, 3) := by decide +kernel
theorem dX6_want_68 : decode cX6_want 68 = .ok (.iconst 0, 1) := by decide +kernel
theorem dX6_want_69 : decode cX6_want 69 = .ok (.bastore, 1) := by decide +kernel
theorem dX6_want_70 : decode cX6_want 70 = .ok (.return_, 1) := by decide +kernel
theorem dX6_scoredIndex_0 : decode cX6_scoredIndex 0 = .ok (.iconst 0, 1) := by decide +kernel
theorem dX6_scoredIndex_1 : decode cX6_scoredIndex 1 = .ok (.istore_n 2, 1) := by decide +kernel
theorem dX6_scoredIndex_2 : decode cX6_scoredIndex 2 = .ok (.iload_n 2, 1) := by decide +kernel
theorem dX6_scoredIndex_3 : decode cX6_scoredIndex 3 = .ok (.aload_n 0, 1) := by decide +kernel
theorem dX6_scoredIndex_4 : decode cX6_scoredIndex 4 = .ok (.getfield 15, 3) := by decide +kernel
theorem dX6_scoredIndex_7 : decode cX6_scoredIndex 7 = .ok (.if_icmp .ge 21, 3) := by decide +kernel
theorem dX6_scoredIndex_10 : decode cX6_scoredIndex 10 = .ok (.aload_n 0, 1) := by decide +kernel
theorem dX6_scoredIndex_11 : decode cX6_scoredIndex 11 = .ok (.getfield 18, 3) := by decide +kernel
theorem dX6_scoredIndex_14 : decode cX6_scoredIndex 14 = .ok (.iload_n 2, 1) := by decide +kernel
theorem dX6_scoredIndex_15 : decode cX6_scoredIndex 15 = .ok (.iaload, 1) := by decide +kernel
theorem dX6_scoredIndex_16 : decode cX6_scoredIndex 16 = .ok (.iload_n 1, 1) := by decide +kernel
theorem dX6_scoredIndex_17 : decode cX6_scoredIndex 17 = .ok (.if_icmp .ne 5, 3) := by decide +kernel
theorem dX6_scoredIndex_20 : decode cX6_scoredIndex 20 = .ok (.iload_n 2, 1) := by decide +kernel
theorem dX6_scoredIndex_21 : decode cX6_scoredIndex 21 = .ok (.ireturn, 1) := by decide +kernel
theorem dX6_scoredIndex_22 : decode cX6_scoredIndex 22 = .ok (.iinc 2 1, 3) := by decide +kernel
theorem dX6_scoredIndex_25 : decode cX6_scoredIndex 25 = .ok (.goto (-23), 3) := by decide +kernel
theorem dX6_scoredIndex_28 : decode cX6_scoredIndex 28 = .ok (.aload_n 0, 1) := by decide +kernel
theorem dX6_scoredIndex_29 : decode cX6_scoredIndex 29 = .ok (.getfield 18, 3) := by decide +kernel
theorem dX6_scoredIndex_32 : decode cX6_scoredIndex 32 = .ok (.aload_n 0, 1) := by decide +kernel
theorem dX6_scoredIndex_33 : decode cX6_scoredIndex 33 = .ok (.getfield 15, 3) := by decide +kernel
theorem dX6_scoredIndex_36 : decode cX6_scoredIndex 36 = .ok (.iload_n 1, 1) := by decide +kernel
theorem dX6_scoredIndex_37 : decode cX6_scoredIndex 37 = .ok (.iastore, 1) := by decide +kernel
theorem dX6_scoredIndex_38 : decode cX6_scoredIndex 38 = .ok (.aload_n 0, 1) := by decide +kernel
theorem dX6_scoredIndex_39 : decode cX6_scoredIndex 39 = .ok (.getfield 22, 3) := by decide +kernel
theorem dX6_scoredIndex_42 : decode cX6_scoredIndex 42 = .ok (.aload_n 0, 1) := by decide +kernel
theorem dX6_scoredIndex_43 : decode cX6_scoredIndex 43 = .ok (.getfield 15, 3) := by decide +kernel
theorem dX6_scoredIndex_46 : decode cX6_scoredIndex 46 = .ok (.iconst 0, 1) := by decide +kernel
theorem dX6_scoredIndex_47 : decode cX6_scoredIndex 47 = .ok (.iastore, 1) := by decide +kernel
theorem dX6_scoredIndex_48 : decode cX6_scoredIndex 48 = .ok (.aload_n 0, 1) := by decide +kernel
theorem dX6_scoredIndex_49 : decode cX6_scoredIndex 49 = .ok (.getfield 25, 3) := by decide +kernel
theorem dX6_scoredIndex_52 : decode cX6_scoredIndex 52 = .ok (.aload_n 0, 1) := by decide +kernel
theorem dX6_scoredIndex_53 : decode cX6_scoredIndex 53 = .ok (.getfield 15, 3) := by decide +kernel
theorem dX6_scoredIndex_56 : decode cX6_scoredIndex 56 = .ok (.iconst 0, 1) := by decide +kernel
theorem dX6_scoredIndex_57 : decode cX6_scoredIndex 57 = .ok (.bastore, 1) := by decide +kernel
theorem dX6_scoredIndex_58 : decode cX6_scoredIndex 58 = .ok (.aload_n 0, 1) := by decide +kernel
theorem dX6_scoredIndex_59 : decode cX6_scoredIndex 59 = .ok (.dup, 1) := by decide +kernel
theorem dX6_scoredIndex_60 : decode cX6_scoredIndex 60 = .ok (.getfield 15, 3) := by decide +kernel
theorem dX6_scoredIndex_63 : decode cX6_scoredIndex 63 = .ok (.iconst 1, 1) := by decide +kernel
theorem dX6_scoredIndex_64 : decode cX6_scoredIndex 64 = .ok (.iadd, 1) := by decide +kernel
theorem dX6_scoredIndex_65 : decode cX6_scoredIndex 65 = .ok (.putfield 15, 3) := by decide +kernel
theorem dX6_scoredIndex_68 : decode cX6_scoredIndex 68 = .ok (.aload_n 0, 1) := by decide +kernel
theorem dX6_scoredIndex_69 : decode cX6_scoredIndex 69 = .ok (.getfield 15, 3) := by decide +kernel
theorem dX6_scoredIndex_72 : decode cX6_scoredIndex 72 = .ok (.iconst 1, 1) := by decide +kernel
theorem dX6_scoredIndex_73 : decode cX6_scoredIndex 73 = .ok (.isub, 1) := by decide +kernel
theorem dX6_scoredIndex_74 : decode cX6_scoredIndex 74 = .ok (.ireturn, 1) := by decide +kernel
theorem dX6_refuse_0 : decode cX6_refuse 0 = .ok (.iload_n 1, 1) := by decide +kernel
theorem dX6_refuse_1 : decode cX6_refuse 1 = .ok (.iconst (-1), 1) := by decide +kernel
theorem dX6_refuse_2 : decode cX6_refuse 2 = .ok (.if_icmp .eq 23, 3) := by decide +kernel
theorem dX6_refuse_5 : decode cX6_refuse 5 = .ok (.aload_n 0, 1) := by decide +kernel
theorem dX6_refuse_6 : decode cX6_refuse 6 = .ok (.getfield 36, 3) := by decide +kernel
theorem dX6_refuse_9 : decode cX6_refuse 9 = .ok (.aload_n 0, 1) := by decide +kernel
theorem dX6_refuse_10 : decode cX6_refuse 10 = .ok (.getfield 33, 3) := by decide +kernel
theorem dX6_refuse_13 : decode cX6_refuse 13 = .ok (.iload_n 1, 1) := by decide +kernel
theorem dX6_refuse_14 : decode cX6_refuse 14 = .ok (.iastore, 1) := by decide +kernel
theorem dX6_refuse_15 : decode cX6_refuse 15 = .ok (.aload_n 0, 1) := by decide +kernel
theorem dX6_refuse_16 : decode cX6_refuse 16 = .ok (.dup, 1) := by decide +kernel
theorem dX6_refuse_17 : decode cX6_refuse 17 = .ok (.getfield 33, 3) := by decide +kernel
theorem dX6_refuse_20 : decode cX6_refuse 20 = .ok (.iconst 1, 1) := by decide +kernel
theorem dX6_refuse_21 : decode cX6_refuse 21 = .ok (.iadd, 1) := by decide +kernel
theorem dX6_refuse_22 : decode cX6_refuse 22 = .ok (.putfield 33, 3) := by decide +kernel
theorem dX6_refuse_25 : decode cX6_refuse 25 = .ok (.return_, 1) := by decide +kernel
theorem dX6_beginPhrase_0 : decode cX6_beginPhrase 0 = .ok (.aload_n 0, 1) := by decide +kernel
theorem dX6_beginPhrase_1 : decode cX6_beginPhrase 1 = .ok (.getfield 42, 3) := by decide +kernel
theorem dX6_beginPhrase_4 : decode cX6_beginPhrase 4 = .ok (.aload_n 0, 1) := by decide +kernel
theorem dX6_beginPhrase_5 : decode cX6_beginPhrase 5 = .ok (.getfield 39, 3) := by decide +kernel
theorem dX6_beginPhrase_8 : decode cX6_beginPhrase 8 = .ok (.iconst 0, 1) := by decide +kernel
theorem dX6_beginPhrase_9 : decode cX6_beginPhrase 9 = .ok (.iastore, 1) := by decide +kernel
theorem dX6_beginPhrase_10 : decode cX6_beginPhrase 10 = .ok (.aload_n 0, 1) := by decide +kernel
theorem dX6_beginPhrase_11 : decode cX6_beginPhrase 11 = .ok (.dup, 1) := by decide +kernel
theorem dX6_beginPhrase_12 : decode cX6_beginPhrase 12 = .ok (.getfield 39, 3) := by decide +kernel
theorem dX6_beginPhrase_15 : decode cX6_beginPhrase 15 = .ok (.iconst 1, 1) := by decide +kernel
theorem dX6_beginPhrase_16 : decode cX6_beginPhrase 16 = .ok (.iadd, 1) := by decide +kernel
theorem dX6_beginPhrase_17 : decode cX6_beginPhrase 17 = .ok (.putfield 39, 3) := by decide +kernel
theorem dX6_beginPhrase_20 : decode cX6_beginPhrase 20 = .ok (.return_, 1) := by decide +kernel
theorem dX6_phraseLengthNow_0 : decode cX6_phraseLengthNow 0 = .ok (.aload_n 0, 1) := by decide +kernel
theorem dX6_phraseLengthNow_1 : decode cX6_phraseLengthNow 1 = .ok (.getfield 39, 3) := by decide +kernel
theorem dX6_phraseLengthNow_4 : decode cX6_phraseLengthNow 4 = .ok (.ifCond .ne 7, 3) := by decide +kernel
theorem dX6_phraseLengthNow_7 : decode cX6_phraseLengthNow 7 = .ok (.iconst 0, 1) := by decide +kernel
theorem dX6_phraseLengthNow_8 : decode cX6_phraseLengthNow 8 = .ok (.goto 14, 3) := by decide +kernel
theorem dX6_phraseLengthNow_11 : decode cX6_phraseLengthNow 11 = .ok (.aload_n 0, 1) := by decide +kernel
theorem dX6_phraseLengthNow_12 : decode cX6_phraseLengthNow 12 = .ok (.getfield 42, 3) := by decide +kernel
theorem dX6_phraseLengthNow_15 : decode cX6_phraseLengthNow 15 = .ok (.aload_n 0, 1) := by decide +kernel
theorem dX6_phraseLengthNow_16 : decode cX6_phraseLengthNow 16 = .ok (.getfield 39, 3) := by decide +kernel
theorem dX6_phraseLengthNow_19 : decode cX6_phraseLengthNow 19 = .ok (.iconst 1, 1) := by decide +kernel
theorem dX6_phraseLengthNow_20 : decode cX6_phraseLengthNow 20 = .ok (.isub, 1) := by decide +kernel
theorem dX6_phraseLengthNow_21 : decode cX6_phraseLengthNow 21 = .ok (.iaload, 1) := by decide +kernel
theorem dX6_phraseLengthNow_22 : decode cX6_phraseLengthNow 22 = .ok (.ireturn, 1) := by decide +kernel
theorem dX6_lengthenPhrase_0 : decode cX6_lengthenPhrase 0 = .ok (.aload_n 0, 1) := by decide +kernel
theorem dX6_lengthenPhrase_1 : decode cX6_lengthenPhrase 1 = .ok (.getfield 39, 3) := by decide +kernel
theorem dX6_lengthenPhrase_4 : decode cX6_lengthenPhrase 4 = .ok (.iconst 1, 1) := by decide +kernel
theorem dX6_lengthenPhrase_5 : decode cX6_lengthenPhrase 5 = .ok (.isub, 1) := by decide +kernel
theorem dX6_lengthenPhrase_6 : decode cX6_lengthenPhrase 6 = .ok (.istore_n 2, 1) := by decide +kernel
theorem dX6_lengthenPhrase_7 : decode cX6_lengthenPhrase 7 = .ok (.aload_n 0, 1) := by decide +kernel
theorem dX6_lengthenPhrase_8 : decode cX6_lengthenPhrase 8 = .ok (.getfield 47, 3) := by decide +kernel
theorem dX6_lengthenPhrase_11 : decode cX6_lengthenPhrase 11 = .ok (.iload_n 2, 1) := by decide +kernel
theorem dX6_lengthenPhrase_12 : decode cX6_lengthenPhrase 12 = .ok (.aaload, 1) := by decide +kernel
theorem dX6_lengthenPhrase_13 : decode cX6_lengthenPhrase 13 = .ok (.aload_n 0, 1) := by decide +kernel
theorem dX6_lengthenPhrase_14 : decode cX6_lengthenPhrase 14 = .ok (.getfield 42, 3) := by decide +kernel
theorem dX6_lengthenPhrase_17 : decode cX6_lengthenPhrase 17 = .ok (.iload_n 2, 1) := by decide +kernel
theorem dX6_lengthenPhrase_18 : decode cX6_lengthenPhrase 18 = .ok (.iaload, 1) := by decide +kernel
theorem dX6_lengthenPhrase_19 : decode cX6_lengthenPhrase 19 = .ok (.iload_n 1, 1) := by decide +kernel
theorem dX6_lengthenPhrase_20 : decode cX6_lengthenPhrase 20 = .ok (.iastore, 1) := by decide +kernel
theorem dX6_lengthenPhrase_21 : decode cX6_lengthenPhrase 21 = .ok (.aload_n 0, 1) := by decide +kernel
theorem dX6_lengthenPhrase_22 : decode cX6_lengthenPhrase 22 = .ok (.getfield 42, 3) := by decide +kernel
theorem dX6_lengthenPhrase_25 : decode cX6_lengthenPhrase 25 = .ok (.iload_n 2, 1) := by decide +kernel
theorem dX6_lengthenPhrase_26 : decode cX6_lengthenPhrase 26 = .ok (.dup2, 1) := by decide +kernel
theorem dX6_lengthenPhrase_27 : decode cX6_lengthenPhrase 27 = .ok (.iaload, 1) := by decide +kernel
theorem dX6_lengthenPhrase_28 : decode cX6_lengthenPhrase 28 = .ok (.iconst 1, 1) := by decide +kernel
theorem dX6_lengthenPhrase_29 : decode cX6_lengthenPhrase 29 = .ok (.iadd, 1) := by decide +kernel
theorem dX6_lengthenPhrase_30 : decode cX6_lengthenPhrase 30 = .ok (.iastore, 1) := by decide +kernel
theorem dX6_lengthenPhrase_31 : decode cX6_lengthenPhrase 31 = .ok (.aload_n 0, 1) := by decide +kernel
theorem dX6_lengthenPhrase_32 : decode cX6_lengthenPhrase 32 = .ok (.iload_n 1, 1) := by decide +kernel
theorem dX6_lengthenPhrase_33 : decode cX6_lengthenPhrase 33 = .ok (.iconst 1, 1) := by decide +kernel
theorem dX6_lengthenPhrase_34 : decode cX6_lengthenPhrase 34 = .ok (.iconst 1, 1) := by decide +kernel
theorem dX6_lengthenPhrase_35 : decode cX6_lengthenPhrase 35 = .ok (.invokevirtual 57, 3) := by decide +kernel
theorem dX6_lengthenPhrase_38 : decode cX6_lengthenPhrase 38 = .ok (.return_, 1) := by decide +kernel
theorem dX6_mostNear_0 : decode cX6_mostNear 0 = .ok (.aload_n 0, 1) := by decide +kernel
theorem dX6_mostNear_1 : decode cX6_mostNear 1 = .ok (.getfield 15, 3) := by decide +kernel
theorem dX6_mostNear_4 : decode cX6_mostNear 4 = .ok (.ifCond .ne 7, 3) := by decide +kernel
theorem dX6_mostNear_7 : decode cX6_mostNear 7 = .ok (.iconst 0, 1) := by decide +kernel
theorem dX6_mostNear_8 : decode cX6_mostNear 8 = .ok (.goto 17, 3) := by decide +kernel
theorem dX6_mostNear_11 : decode cX6_mostNear 11 = .ok (.aload_n 0, 1) := by decide +kernel
theorem dX6_mostNear_12 : decode cX6_mostNear 12 = .ok (.getfield 15, 3) := by decide +kernel
theorem dX6_mostNear_15 : decode cX6_mostNear 15 = .ok (.iconst 1, 1) := by decide +kernel
theorem dX6_mostNear_16 : decode cX6_mostNear 16 = .ok (.isub, 1) := by decide +kernel
theorem dX6_mostNear_17 : decode cX6_mostNear 17 = .ok (.bipush 50, 2) := by decide +kernel
theorem dX6_mostNear_19 : decode cX6_mostNear 19 = .ok (.imul, 1) := by decide +kernel
theorem dX6_mostNear_20 : decode cX6_mostNear 20 = .ok (.aload_n 0, 1) := by decide +kernel
theorem dX6_mostNear_21 : decode cX6_mostNear 21 = .ok (.getfield 50, 3) := by decide +kernel
theorem dX6_mostNear_24 : decode cX6_mostNear 24 = .ok (.imul, 1) := by decide +kernel
theorem dX6_mostNear_25 : decode cX6_mostNear 25 = .ok (.ireturn, 1) := by decide +kernel
theorem dX7_init_0 : decode cX7_init 0 = .ok (.aload_n 0, 1) := by decide +kernel
theorem dX7_init_1 : decode cX7_init 1 = .ok (.invokespecial 3, 3) := by decide +kernel
theorem dX7_init_4 : decode cX7_init 4 = .ok (.aload_n 0, 1) := by decide +kernel
theorem dX7_init_5 : decode cX7_init 5 = .ok (.new 9, 3) := by decide +kernel
theorem dX7_init_8 : decode cX7_init 8 = .ok (.dup, 1) := by decide +kernel
theorem dX7_init_9 : decode cX7_init 9 = .ok (.invokespecial 11, 3) := by decide +kernel
theorem dX7_init_12 : decode cX7_init 12 = .ok (.putfield 12, 3) := by decide +kernel
theorem dX7_init_15 : decode cX7_init 15 = .ok (.aload_n 0, 1) := by decide +kernel
theorem dX7_init_16 : decode cX7_init 16 = .ok (.iconst (-1), 1) := by decide +kernel
theorem dX7_init_17 : decode cX7_init 17 = .ok (.putfield 18, 3) := by decide +kernel
theorem dX7_init_20 : decode cX7_init 20 = .ok (.aload_n 0, 1) := by decide +kernel
theorem dX7_init_21 : decode cX7_init 21 = .ok (.iconst 0, 1) := by decide +kernel
theorem dX7_init_22 : decode cX7_init 22 = .ok (.putfield 22, 3) := by decide +kernel
theorem dX7_init_25 : decode cX7_init 25 = .ok (.aload_n 0, 1) := by decide +kernel
theorem dX7_init_26 : decode cX7_init 26 = .ok (.iconst 0, 1) := by decide +kernel
theorem dX7_init_27 : decode cX7_init 27 = .ok (.putfield 25, 3) := by decide +kernel
theorem dX7_init_30 : decode cX7_init 30 = .ok (.aload_n 0, 1) := by decide +kernel
theorem dX7_init_31 : decode cX7_init 31 = .ok (.iconst 0, 1) := by decide +kernel
theorem dX7_init_32 : decode cX7_init 32 = .ok (.putfield 28, 3) := by decide +kernel
theorem dX7_init_35 : decode cX7_init 35 = .ok (.aload_n 0, 1) := by decide +kernel
theorem dX7_init_36 : decode cX7_init 36 = .ok (.lconst 0, 1) := by decide +kernel
theorem dX7_init_37 : decode cX7_init 37 = .ok (.putfield 31, 3) := by decide +kernel
theorem dX7_init_40 : decode cX7_init 40 = .ok (.aload_n 0, 1) := by decide +kernel
theorem dX7_init_41 : decode cX7_init 41 = .ok (.aload_n 1, 1) := by decide +kernel
theorem dX7_init_42 : decode cX7_init 42 = .ok (.putfield 35, 3) := by decide +kernel
theorem dX7_init_45 : decode cX7_init 45 = .ok (.return_, 1) := by decide +kernel
theorem dX7_read_0 : decode cX7_read 0 = .ok (.aload_n 0, 1) := by decide +kernel
theorem dX7_read_1 : decode cX7_read 1 = .ok (.getfield 12, 3) := by decide +kernel
theorem dX7_read_4 : decode cX7_read 4 = .ok (.invokevirtual 39, 3) := by decide +kernel
theorem dX7_read_7 : decode cX7_read 7 = .ok (.aload_n 0, 1) := by decide +kernel
theorem dX7_read_8 : decode cX7_read 8 = .ok (.iconst 0, 1) := by decide +kernel
theorem dX7_read_9 : decode cX7_read 9 = .ok (.putfield 22, 3) := by decide +kernel
theorem dX7_read_12 : decode cX7_read 12 = .ok (.iconst 0, 1) := by decide +kernel
theorem dX7_read_13 : decode cX7_read 13 = .ok (.istore_n 3, 1) := by decide +kernel
theorem dX7_read_14 : decode cX7_read 14 = .ok (.iload_n 3, 1) := by decide +kernel
theorem dX7_read_15 : decode cX7_read 15 = .ok (.iload_n 2, 1) := by decide +kernel
theorem dX7_read_16 : decode cX7_read 16 = .ok (.if_icmp .gt 40, 3) := by decide +kernel
theorem dX7_read_19 : decode cX7_read 19 = .ok (.aload_n 0, 1) := by decide +kernel
theorem dX7_read_20 : decode cX7_read 20 = .ok (.iload_n 3, 1) := by decide +kernel
theorem dX7_read_21 : decode cX7_read 21 = .ok (.iload_n 2, 1) := by decide +kernel
theorem dX7_read_22 : decode cX7_read 22 = .ok (.if_icmp .ge 9, 3) := by decide +kernel
theorem dX7_read_25 : decode cX7_read 25 = .ok (.aload_n 1, 1) := by decide +kernel
theorem dX7_read_26 : decode cX7_read 26 = .ok (.iload_n 3, 1) := by decide +kernel
theorem dX7_read_27 : decode cX7_read 27 = .ok (.iaload, 1) := by decide +kernel
theorem dX7_read_28 : decode cX7_read 28 = .ok (.goto 4, 3) := by decide +kernel
theorem dX7_read_31 : decode cX7_read 31 = .ok (.iconst (-1), 1) := by decide +kernel
theorem dX7_read_32 : decode cX7_read 32 = .ok (.invokevirtual 42, 3) := by decide +kernel
theorem dX7_read_35 : decode cX7_read 35 = .ok (.istore 4, 2) := by decide +kernel
theorem dX7_read_37 : decode cX7_read 37 = .ok (.iload 4, 2) := by decide +kernel
theorem dX7_read_39 : decode cX7_read 39 = .ok (.ifCond .eq 11, 3) := by decide +kernel
theorem dX7_read_42 : decode cX7_read 42 = .ok (.aload_n 0, 1) := by decide +kernel
theorem dX7_read_43 : decode cX7_read 43 = .ok (.iload_n 3, 1) := by decide +kernel
theorem dX7_read_44 : decode cX7_read 44 = .ok (.putfield 18, 3) := by decide +kernel
theorem dX7_read_47 : decode cX7_read 47 = .ok (.iload 4, 2) := by decide +kernel
theorem dX7_read_49 : decode cX7_read 49 = .ok (.ireturn, 1) := by decide +kernel
theorem dX7_read_50 : decode cX7_read 50 = .ok (.iinc 3 1, 3) := by decide +kernel
theorem dX7_read_53 : decode cX7_read 53 = .ok (.goto (-39), 3) := by decide +kernel
theorem dX7_read_56 : decode cX7_read 56 = .ok (.aload_n 0, 1) := by decide +kernel
theorem dX7_read_57 : decode cX7_read 57 = .ok (.iconst (-1), 1) := by decide +kernel
theorem dX7_read_58 : decode cX7_read 58 = .ok (.putfield 18, 3) := by decide +kernel
theorem dX7_read_61 : decode cX7_read 61 = .ok (.iconst 0, 1) := by decide +kernel
theorem dX7_read_62 : decode cX7_read 62 = .ok (.ireturn, 1) := by decide +kernel
theorem dX7_step_0 : decode cX7_step 0 = .ok (.aload_n 0, 1) := by decide +kernel
theorem dX7_step_1 : decode cX7_step 1 = .ok (.getfield 22, 3) := by decide +kernel
theorem dX7_step_4 : decode cX7_step 4 = .ok (.tableswitch 138 1 6 #[40, 47, 78, 84, 90, 96], 40) := by decide +kernel
theorem dX7_step_44 : decode cX7_step 44 = .ok (.aload_n 0, 1) := by decide +kernel
theorem dX7_step_45 : decode cX7_step 45 = .ok (.iload_n 1, 1) := by decide +kernel
theorem dX7_step_46 : decode cX7_step 46 = .ok (.iconst 2, 1) := by decide +kernel
theorem dX7_step_47 : decode cX7_step 47 = .ok (.invokevirtual 46, 3) := by decide +kernel
theorem dX7_step_50 : decode cX7_step 50 = .ok (.ireturn, 1) := by decide +kernel
theorem dX7_step_51 : decode cX7_step 51 = .ok (.iload_n 1, 1) := by decide +kernel
theorem dX7_step_52 : decode cX7_step 52 = .ok (.invokestatic 50, 3) := by decide +kernel
theorem dX7_step_55 : decode cX7_step 55 = .ok (.ifCond .eq 9, 3) := by decide +kernel
theorem dX7_step_58 : decode cX7_step 58 = .ok (.aload_n 0, 1) := by decide +kernel
theorem dX7_step_59 : decode cX7_step 59 = .ok (.iload_n 1, 1) := by decide +kernel
theorem dX7_step_60 : decode cX7_step 60 = .ok (.invokevirtual 54, 3) := by decide +kernel
theorem dX7_step_63 : decode cX7_step 63 = .ok (.ireturn, 1) := by decide +kernel
theorem dX7_step_64 : decode cX7_step 64 = .ok (.aload_n 0, 1) := by decide +kernel
theorem dX7_step_65 : decode cX7_step 65 = .ok (.iload_n 1, 1) := by decide +kernel
theorem dX7_step_66 : decode cX7_step 66 = .ok (.invokevirtual 57, 3) := by decide +kernel
theorem dX7_step_69 : decode cX7_step 69 = .ok (.ifCond .eq 11, 3) := by decide +kernel
theorem dX7_step_72 : decode cX7_step 72 = .ok (.aload_n 0, 1) := by decide +kernel
theorem dX7_step_73 : decode cX7_step 73 = .ok (.iload_n 1, 1) := by decide +kernel
theorem dX7_step_74 : decode cX7_step 74 = .ok (.invokevirtual 60, 3) := by decide +kernel
theorem dX7_step_77 : decode cX7_step 77 = .ok (.goto 4, 3) := by decide +kernel
theorem dX7_step_80 : decode cX7_step 80 = .ok (.iconst 0, 1) := by decide +kernel
theorem dX7_step_81 : decode cX7_step 81 = .ok (.ireturn, 1) := by decide +kernel
theorem dX7_step_82 : decode cX7_step 82 = .ok (.aload_n 0, 1) := by decide +kernel
theorem dX7_step_83 : decode cX7_step 83 = .ok (.iload_n 1, 1) := by decide +kernel
theorem dX7_step_84 : decode cX7_step 84 = .ok (.invokevirtual 63, 3) := by decide +kernel
theorem dX7_step_87 : decode cX7_step 87 = .ok (.ireturn, 1) := by decide +kernel
theorem dX7_step_88 : decode cX7_step 88 = .ok (.aload_n 0, 1) := by decide +kernel
theorem dX7_step_89 : decode cX7_step 89 = .ok (.iload_n 1, 1) := by decide +kernel
theorem dX7_step_90 : decode cX7_step 90 = .ok (.invokevirtual 66, 3) := by decide +kernel
theorem dX7_step_93 : decode cX7_step 93 = .ok (.ireturn, 1) := by decide +kernel
theorem dX7_step_94 : decode cX7_step 94 = .ok (.aload_n 0, 1) := by decide +kernel
theorem dX7_step_95 : decode cX7_step 95 = .ok (.iload_n 1, 1) := by decide +kernel
theorem dX7_step_96 : decode cX7_step 96 = .ok (.invokevirtual 69, 3) := by decide +kernel
theorem dX7_step_99 : decode cX7_step 99 = .ok (.ireturn, 1) := by decide +kernel
theorem dX7_step_100 : decode cX7_step 100 = .ok (.iload_n 1, 1) := by decide +kernel
theorem dX7_step_101 : decode cX7_step 101 = .ok (.invokestatic 50, 3) := by decide +kernel
theorem dX7_step_104 : decode cX7_step 104 = .ok (.ifCond .eq 9, 3) := by decide +kernel
theorem dX7_step_107 : decode cX7_step 107 = .ok (.aload_n 0, 1) := by decide +kernel
theorem dX7_step_108 : decode cX7_step 108 = .ok (.iload_n 1, 1) := by decide +kernel
theorem dX7_step_109 : decode cX7_step 109 = .ok (.invokevirtual 54, 3) := by decide +kernel
theorem dX7_step_112 : decode cX7_step 112 = .ok (.ireturn, 1) := by decide +kernel
theorem dX7_step_113 : decode cX7_step 113 = .ok (.aload_n 0, 1) := by decide +kernel
theorem dX7_step_114 : decode cX7_step 114 = .ok (.getfield 12, 3) := by decide +kernel
theorem dX7_step_117 : decode cX7_step 117 = .ok (.aload_n 0, 1) := by decide +kernel
theorem dX7_step_118 : decode cX7_step 118 = .ok (.getfield 35, 3) := by decide +kernel
theorem dX7_step_121 : decode cX7_step 121 = .ok (.aload_n 0, 1) := by decide +kernel
theorem dX7_step_122 : decode cX7_step 122 = .ok (.getfield 31, 3) := by decide +kernel
theorem dX7_step_125 : decode cX7_step 125 = .ok (.invokevirtual 72, 3) := by decide +kernel
theorem dX7_step_128 : decode cX7_step 128 = .ok (.invokevirtual 78, 3) := by decide +kernel
theorem dX7_step_131 : decode cX7_step 131 = .ok (.aload_n 0, 1) := by decide +kernel
theorem dX7_step_132 : decode cX7_step 132 = .ok (.iconst 5, 1) := by decide +kernel
theorem dX7_step_133 : decode cX7_step 133 = .ok (.putfield 22, 3) := by decide +kernel
theorem dX7_step_136 : decode cX7_step 136 = .ok (.aload_n 0, 1) := by decide +kernel
theorem dX7_step_137 : decode cX7_step 137 = .ok (.iload_n 1, 1) := by decide +kernel
theorem dX7_step_138 : decode cX7_step 138 = .ok (.invokevirtual 69, 3) := by decide +kernel
theorem dX7_step_141 : decode cX7_step 141 = .ok (.ireturn, 1) := by decide +kernel
theorem dX7_step_142 : decode cX7_step 142 = .ok (.aload_n 0, 1) := by decide +kernel
theorem dX7_step_143 : decode cX7_step 143 = .ok (.iload_n 1, 1) := by decide +kernel
theorem dX7_step_144 : decode cX7_step 144 = .ok (.invokevirtual 60, 3) := by decide +kernel
theorem dX7_step_147 : decode cX7_step 147 = .ok (.ireturn, 1) := by decide +kernel
theorem dX7_stepBetween_0 : decode cX7_stepBetween 0 = .ok (.iload_n 1, 1) := by decide +kernel
theorem dX7_stepBetween_1 : decode cX7_stepBetween 1 = .ok (.iconst (-1), 1) := by decide +kernel
theorem dX7_stepBetween_2 : decode cX7_stepBetween 2 = .ok (.if_icmp .ne 19, 3) := by decide +kernel
theorem dX7_stepBetween_5 : decode cX7_stepBetween 5 = .ok (.aload_n 0, 1) := by decide +kernel
theorem dX7_stepBetween_6 : decode cX7_stepBetween 6 = .ok (.getfield 12, 3) := by decide +kernel
theorem dX7_stepBetween_9 : decode cX7_stepBetween 9 = .ok (.getfield 82, 3) := by decide +kernel
theorem dX7_stepBetween_12 : decode cX7_stepBetween 12 = .ok (.ifCond .ne 7, 3) := by decide +kernel
theorem dX7_stepBetween_15 : decode cX7_stepBetween 15 = .ok (.iconst 1, 1) := by decide +kernel
theorem dX7_stepBetween_16 : decode cX7_stepBetween 16 = .ok (.goto 4, 3) := by decide +kernel
theorem dX7_stepBetween_19 : decode cX7_stepBetween 19 = .ok (.iconst 0, 1) := by decide +kernel
theorem dX7_stepBetween_20 : decode cX7_stepBetween 20 = .ok (.ireturn, 1) := by decide +kernel
theorem dX7_stepBetween_21 : decode cX7_stepBetween 21 = .ok (.iload_n 1, 1) := by decide +kernel
theorem dX7_stepBetween_22 : decode cX7_stepBetween 22 = .ok (.bipush 32, 2) := by decide +kernel
theorem dX7_stepBetween_24 : decode cX7_stepBetween 24 = .ok (.if_icmp .ne 5, 3) := by decide +kernel
theorem dX7_stepBetween_27 : decode cX7_stepBetween 27 = .ok (.iconst 0, 1) := by decide +kernel
theorem dX7_stepBetween_28 : decode cX7_stepBetween 28 = .ok (.ireturn, 1) := by decide +kernel
theorem dX7_stepBetween_29 : decode cX7_stepBetween 29 = .ok (.iload_n 1, 1) := by decide +kernel
theorem dX7_stepBetween_30 : decode cX7_stepBetween 30 = .ok (.bipush 126, 2) := by decide +kernel
theorem dX7_stepBetween_32 : decode cX7_stepBetween 32 = .ok (.if_icmp .ne 17, 3) := by decide +kernel
theorem dX7_stepBetween_35 : decode cX7_stepBetween 35 = .ok (.aload_n 0, 1) := by decide +kernel
theorem dX7_stepBetween_36 : decode cX7_stepBetween 36 = .ok (.getfield 12, 3) := by decide +kernel
theorem dX7_stepBetween_39 : decode cX7_stepBetween 39 = .ok (.getfield 85, 3) := by decide +kernel
theorem dX7_stepBetween_42 : decode cX7_stepBetween 42 = .ok (.ifCond .le 7, 3) := by decide +kernel
theorem dX7_stepBetween_45 : decode cX7_stepBetween 45 = .ok (.iconst 1, 1) := by decide +kernel
theorem dX7_stepBetween_46 : decode cX7_stepBetween 46 = .ok (.goto 4, 3) := by decide +kernel
theorem dX7_stepBetween_49 : decode cX7_stepBetween 49 = .ok (.iconst 0, 1) := by decide +kernel
theorem dX7_stepBetween_50 : decode cX7_stepBetween 50 = .ok (.istore_n 2, 1) := by decide +kernel
theorem dX7_stepBetween_51 : decode cX7_stepBetween 51 = .ok (.iload_n 1, 1) := by decide +kernel
theorem dX7_stepBetween_52 : decode cX7_stepBetween 52 = .ok (.invokestatic 88, 3) := by decide +kernel
theorem dX7_stepBetween_55 : decode cX7_stepBetween 55 = .ok (.ifCond .eq 7, 3) := by decide +kernel
theorem dX7_stepBetween_58 : decode cX7_stepBetween 58 = .ok (.iload_n 2, 1) := by decide +kernel
theorem dX7_stepBetween_59 : decode cX7_stepBetween 59 = .ok (.ifCond .eq 5, 3) := by decide +kernel
theorem dX7_stepBetween_62 : decode cX7_stepBetween 62 = .ok (.iconst 1, 1) := by decide +kernel
theorem dX7_stepBetween_63 : decode cX7_stepBetween 63 = .ok (.ireturn, 1) := by decide +kernel
theorem dX7_stepBetween_64 : decode cX7_stepBetween 64 = .ok (.aload_n 0, 1) := by decide +kernel
theorem dX7_stepBetween_65 : decode cX7_stepBetween 65 = .ok (.getfield 12, 3) := by decide +kernel
theorem dX7_stepBetween_68 : decode cX7_stepBetween 68 = .ok (.getfield 82, 3) := by decide +kernel
theorem dX7_stepBetween_71 : decode cX7_stepBetween 71 = .ok (.bipush 6, 2) := by decide +kernel
theorem dX7_stepBetween_73 : decode cX7_stepBetween 73 = .ok (.if_icmp .lt 5, 3) := by decide +kernel
theorem dX7_stepBetween_76 : decode cX7_stepBetween 76 = .ok (.iconst 2, 1) := by decide +kernel
theorem dX7_stepBetween_77 : decode cX7_stepBetween 77 = .ok (.ireturn, 1) := by decide +kernel
theorem dX7_stepBetween_78 : decode cX7_stepBetween 78 = .ok (.aload_n 0, 1) := by decide +kernel
theorem dX7_stepBetween_79 : decode cX7_stepBetween 79 = .ok (.getfield 12, 3) := by decide +kernel
theorem dX7_stepBetween_82 : decode cX7_stepBetween 82 = .ok (.dup, 1) := by decide +kernel
theorem dX7_stepBetween_83 : decode cX7_stepBetween 83 = .ok (.getfield 82, 3) := by decide +kernel
theorem dX7_stepBetween_86 : decode cX7_stepBetween 86 = .ok (.iconst 1, 1) := by decide +kernel
theorem dX7_stepBetween_87 : decode cX7_stepBetween 87 = .ok (.iadd, 1) := by decide +kernel
theorem dX7_stepBetween_88 : decode cX7_stepBetween 88 = .ok (.putfield 82, 3) := by decide +kernel
theorem dX7_stepBetween_91 : decode cX7_stepBetween 91 = .ok (.aload_n 0, 1) := by decide +kernel
theorem dX7_stepBetween_92 : decode cX7_stepBetween 92 = .ok (.iload_n 1, 1) := by decide +kernel
theorem dX7_stepBetween_93 : decode cX7_stepBetween 93 = .ok (.invokevirtual 91, 3) := by decide +kernel
theorem dX7_stepBetween_96 : decode cX7_stepBetween 96 = .ok (.ireturn, 1) := by decide +kernel
theorem dX7_canBegin_0 : decode cX7_canBegin 0 = .ok (.iload_n 0, 1) := by decide +kernel
theorem dX7_canBegin_1 : decode cX7_canBegin 1 = .ok (.invokestatic 50, 3) := by decide +kernel
theorem dX7_canBegin_4 : decode cX7_canBegin 4 = .ok (.ifCond .ne 27, 3) := by decide +kernel
theorem dX7_canBegin_7 : decode cX7_canBegin 7 = .ok (.iload_n 0, 1) := by decide +kernel
theorem dX7_canBegin_8 : decode cX7_canBegin 8 = .ok (.bipush 43, 2) := by decide +kernel
theorem dX7_canBegin_10 : decode cX7_canBegin 10 = .ok (.if_icmp .eq 21, 3) := by decide +kernel
theorem dX7_canBegin_13 : decode cX7_canBegin 13 = .ok (.iload_n 0, 1) := by decide +kernel
theorem dX7_canBegin_14 : decode cX7_canBegin 14 = .ok (.bipush 45, 2) := by decide +kernel
theorem dX7_canBegin_16 : decode cX7_canBegin 16 = .ok (.if_icmp .eq 15, 3) := by decide +kernel
theorem dX7_canBegin_19 : decode cX7_canBegin 19 = .ok (.iload_n 0, 1) := by decide +kernel
theorem dX7_canBegin_20 : decode cX7_canBegin 20 = .ok (.bipush 34, 2) := by decide +kernel
theorem dX7_canBegin_22 : decode cX7_canBegin 22 = .ok (.if_icmp .eq 9, 3) := by decide +kernel
theorem dX7_canBegin_25 : decode cX7_canBegin 25 = .ok (.iload_n 0, 1) := by decide +kernel
theorem dX7_canBegin_26 : decode cX7_canBegin 26 = .ok (.bipush 126, 2) := by decide +kernel
theorem dX7_canBegin_28 : decode cX7_canBegin 28 = .ok (.if_icmp .ne 7, 3) := by decide +kernel
theorem dX7_canBegin_31 : decode cX7_canBegin 31 = .ok (.iconst 1, 1) := by decide +kernel
theorem dX7_canBegin_32 : decode cX7_canBegin 32 = .ok (.goto 4, 3) := by decide +kernel
theorem dX7_canBegin_35 : decode cX7_canBegin 35 = .ok (.iconst 0, 1) := by decide +kernel
theorem dX7_canBegin_36 : decode cX7_canBegin 36 = .ok (.ireturn, 1) := by decide +kernel
theorem dX7_beginPart_0 : decode cX7_beginPart 0 = .ok (.aload_n 0, 1) := by decide +kernel
theorem dX7_beginPart_1 : decode cX7_beginPart 1 = .ok (.iconst 0, 1) := by decide +kernel
theorem dX7_beginPart_2 : decode cX7_beginPart 2 = .ok (.putfield 25, 3) := by decide +kernel
theorem dX7_beginPart_5 : decode cX7_beginPart 5 = .ok (.iload_n 1, 1) := by decide +kernel
theorem dX7_beginPart_6 : decode cX7_beginPart 6 = .ok (.lookupswitch 75 #[(34, 54), (43, 42), (45, 42), (126, 68)], 42) := by decide +kernel
theorem dX7_beginPart_48 : decode cX7_beginPart 48 = .ok (.aload_n 0, 1) := by decide +kernel
theorem dX7_beginPart_49 : decode cX7_beginPart 49 = .ok (.iload_n 1, 1) := by decide +kernel
theorem dX7_beginPart_50 : decode cX7_beginPart 50 = .ok (.putfield 25, 3) := by decide +kernel
theorem dX7_beginPart_53 : decode cX7_beginPart 53 = .ok (.aload_n 0, 1) := by decide +kernel
theorem dX7_beginPart_54 : decode cX7_beginPart 54 = .ok (.iconst 1, 1) := by decide +kernel
theorem dX7_beginPart_55 : decode cX7_beginPart 55 = .ok (.putfield 22, 3) := by decide +kernel
theorem dX7_beginPart_58 : decode cX7_beginPart 58 = .ok (.iconst 0, 1) := by decide +kernel
theorem dX7_beginPart_59 : decode cX7_beginPart 59 = .ok (.ireturn, 1) := by decide +kernel
theorem dX7_beginPart_60 : decode cX7_beginPart 60 = .ok (.aload_n 0, 1) := by decide +kernel
theorem dX7_beginPart_61 : decode cX7_beginPart 61 = .ok (.getfield 12, 3) := by decide +kernel
theorem dX7_beginPart_64 : decode cX7_beginPart 64 = .ok (.invokevirtual 94, 3) := by decide +kernel
theorem dX7_beginPart_67 : decode cX7_beginPart 67 = .ok (.aload_n 0, 1) := by decide +kernel
theorem dX7_beginPart_68 : decode cX7_beginPart 68 = .ok (.iconst 5, 1) := by decide +kernel
theorem dX7_beginPart_69 : decode cX7_beginPart 69 = .ok (.putfield 22, 3) := by decide +kernel
theorem dX7_beginPart_72 : decode cX7_beginPart 72 = .ok (.iconst 0, 1) := by decide +kernel
theorem dX7_beginPart_73 : decode cX7_beginPart 73 = .ok (.ireturn, 1) := by decide +kernel
theorem dX7_beginPart_74 : decode cX7_beginPart 74 = .ok (.aload_n 0, 1) := by decide +kernel
theorem dX7_beginPart_75 : decode cX7_beginPart 75 = .ok (.iconst 4, 1) := by decide +kernel
theorem dX7_beginPart_76 : decode cX7_beginPart 76 = .ok (.putfield 22, 3) := by decide +kernel
theorem dX7_beginPart_79 : decode cX7_beginPart 79 = .ok (.iconst 0, 1) := by decide +kernel
theorem dX7_beginPart_80 : decode cX7_beginPart 80 = .ok (.ireturn, 1) := by decide +kernel
theorem dX7_beginPart_81 : decode cX7_beginPart 81 = .ok (.aload_n 0, 1) := by decide +kernel
theorem dX7_beginPart_82 : decode cX7_beginPart 82 = .ok (.iload_n 1, 1) := by decide +kernel
theorem dX7_beginPart_83 : decode cX7_beginPart 83 = .ok (.iconst 2, 1) := by decide +kernel
theorem dX7_beginPart_84 : decode cX7_beginPart 84 = .ok (.invokevirtual 46, 3) := by decide +kernel
theorem dX7_beginPart_87 : decode cX7_beginPart 87 = .ok (.ireturn, 1) := by decide +kernel
theorem dX7_beginWord_0 : decode cX7_beginWord 0 = .ok (.iload_n 1, 1) := by decide +kernel
theorem dX7_beginWord_1 : decode cX7_beginWord 1 = .ok (.invokestatic 50, 3) := by decide +kernel
theorem dX7_beginWord_4 : decode cX7_beginWord 4 = .ok (.ifCond .ne 5, 3) := by decide +kernel
theorem dX7_beginWord_7 : decode cX7_beginWord 7 = .ok (.iconst 1, 1) := by decide +kernel
theorem dX7_beginWord_8 : decode cX7_beginWord 8 = .ok (.ireturn, 1) := by decide +kernel
theorem dX7_beginWord_9 : decode cX7_beginWord 9 = .ok (.aload_n 0, 1) := by decide +kernel
theorem dX7_beginWord_10 : decode cX7_beginWord 10 = .ok (.iconst 0, 1) := by decide +kernel
theorem dX7_beginWord_11 : decode cX7_beginWord 11 = .ok (.putfield 28, 3) := by decide +kernel
theorem dX7_beginWord_14 : decode cX7_beginWord 14 = .ok (.aload_n 0, 1) := by decide +kernel
theorem dX7_beginWord_15 : decode cX7_beginWord 15 = .ok (.lconst 0, 1) := by decide +kernel
theorem dX7_beginWord_16 : decode cX7_beginWord 16 = .ok (.putfield 31, 3) := by decide +kernel
theorem dX7_beginWord_19 : decode cX7_beginWord 19 = .ok (.aload_n 0, 1) := by decide +kernel
theorem dX7_beginWord_20 : decode cX7_beginWord 20 = .ok (.iload_n 2, 1) := by decide +kernel
theorem dX7_beginWord_21 : decode cX7_beginWord 21 = .ok (.putfield 22, 3) := by decide +kernel
theorem dX7_beginWord_24 : decode cX7_beginWord 24 = .ok (.aload_n 0, 1) := by decide +kernel
theorem dX7_beginWord_25 : decode cX7_beginWord 25 = .ok (.iload_n 1, 1) := by decide +kernel
theorem dX7_beginWord_26 : decode cX7_beginWord 26 = .ok (.invokevirtual 54, 3) := by decide +kernel
theorem dX7_beginWord_29 : decode cX7_beginWord 29 = .ok (.ireturn, 1) := by decide +kernel
theorem dX7_spellOn_0 : decode cX7_spellOn 0 = .ok (.aload_n 0, 1) := by decide +kernel
theorem dX7_spellOn_1 : decode cX7_spellOn 1 = .ok (.getfield 28, 3) := by decide +kernel
theorem dX7_spellOn_4 : decode cX7_spellOn 4 = .ok (.bipush 8, 2) := by decide +kernel
theorem dX7_spellOn_6 : decode cX7_spellOn 6 = .ok (.if_icmp .lt 5, 3) := by decide +kernel
theorem dX7_spellOn_9 : decode cX7_spellOn 9 = .ok (.iconst 1, 1) := by decide +kernel
theorem dX7_spellOn_10 : decode cX7_spellOn 10 = .ok (.ireturn, 1) := by decide +kernel
theorem dX7_spellOn_11 : decode cX7_spellOn 11 = .ok (.aload_n 0, 1) := by decide +kernel
theorem dX7_spellOn_12 : decode cX7_spellOn 12 = .ok (.dup, 1) := by decide +kernel
theorem dX7_spellOn_13 : decode cX7_spellOn 13 = .ok (.getfield 28, 3) := by decide +kernel
theorem dX7_spellOn_16 : decode cX7_spellOn 16 = .ok (.iconst 1, 1) := by decide +kernel
theorem dX7_spellOn_17 : decode cX7_spellOn 17 = .ok (.iadd, 1) := by decide +kernel
theorem dX7_spellOn_18 : decode cX7_spellOn 18 = .ok (.putfield 28, 3) := by decide +kernel
theorem dX7_spellOn_21 : decode cX7_spellOn 21 = .ok (.aload_n 0, 1) := by decide +kernel
theorem dX7_spellOn_22 : decode cX7_spellOn 22 = .ok (.aload_n 0, 1) := by decide +kernel
theorem dX7_spellOn_23 : decode cX7_spellOn 23 = .ok (.getfield 31, 3) := by decide +kernel
theorem dX7_spellOn_26 : decode cX7_spellOn 26 = .ok (.iload_n 1, 1) := by decide +kernel
theorem dX7_spellOn_27 : decode cX7_spellOn 27 = .ok (.invokestatic 97, 3) := by decide +kernel
theorem dX7_spellOn_30 : decode cX7_spellOn 30 = .ok (.putfield 31, 3) := by decide +kernel
theorem dX7_spellOn_33 : decode cX7_spellOn 33 = .ok (.iconst 0, 1) := by decide +kernel
theorem dX7_spellOn_34 : decode cX7_spellOn 34 = .ok (.ireturn, 1) := by decide +kernel
theorem dX7_endWord_0 : decode cX7_endWord 0 = .ok (.aload_n 0, 1) := by decide +kernel
theorem dX7_endWord_1 : decode cX7_endWord 1 = .ok (.getfield 25, 3) := by decide +kernel
theorem dX7_endWord_4 : decode cX7_endWord 4 = .ok (.bipush 45, 2) := by decide +kernel
theorem dX7_endWord_6 : decode cX7_endWord 6 = .ok (.if_icmp .eq 16, 3) := by decide +kernel
theorem dX7_endWord_9 : decode cX7_endWord 9 = .ok (.iload_n 1, 1) := by decide +kernel
theorem dX7_endWord_10 : decode cX7_endWord 10 = .ok (.bipush 94, 2) := by decide +kernel
theorem dX7_endWord_12 : decode cX7_endWord 12 = .ok (.if_icmp .ne 10, 3) := by decide +kernel
theorem dX7_endWord_15 : decode cX7_endWord 15 = .ok (.aload_n 0, 1) := by decide +kernel
theorem dX7_endWord_16 : decode cX7_endWord 16 = .ok (.iconst 3, 1) := by decide +kernel
theorem dX7_endWord_17 : decode cX7_endWord 17 = .ok (.putfield 22, 3) := by decide +kernel
theorem dX7_endWord_20 : decode cX7_endWord 20 = .ok (.iconst 0, 1) := by decide +kernel
theorem dX7_endWord_21 : decode cX7_endWord 21 = .ok (.ireturn, 1) := by decide +kernel
theorem dX7_endWord_22 : decode cX7_endWord 22 = .ok (.aload_n 0, 1) := by decide +kernel
theorem dX7_endWord_23 : decode cX7_endWord 23 = .ok (.getfield 35, 3) := by decide +kernel
theorem dX7_endWord_26 : decode cX7_endWord 26 = .ok (.aload_n 0, 1) := by decide +kernel
theorem dX7_endWord_27 : decode cX7_endWord 27 = .ok (.getfield 31, 3) := by decide +kernel
theorem dX7_endWord_30 : decode cX7_endWord 30 = .ok (.invokevirtual 72, 3) := by decide +kernel
theorem dX7_endWord_33 : decode cX7_endWord 33 = .ok (.istore_n 2, 1) := by decide +kernel
theorem dX7_endWord_34 : decode cX7_endWord 34 = .ok (.aload_n 0, 1) := by decide +kernel
theorem dX7_endWord_35 : decode cX7_endWord 35 = .ok (.getfield 25, 3) := by decide +kernel
theorem dX7_endWord_38 : decode cX7_endWord 38 = .ok (.bipush 45, 2) := by decide +kernel
theorem dX7_endWord_40 : decode cX7_endWord 40 = .ok (.if_icmp .ne 14, 3) := by decide +kernel
theorem dX7_endWord_43 : decode cX7_endWord 43 = .ok (.aload_n 0, 1) := by decide +kernel
theorem dX7_endWord_44 : decode cX7_endWord 44 = .ok (.getfield 12, 3) := by decide +kernel
theorem dX7_endWord_47 : decode cX7_endWord 47 = .ok (.iload_n 2, 1) := by decide +kernel
theorem dX7_endWord_48 : decode cX7_endWord 48 = .ok (.invokevirtual 101, 3) := by decide +kernel
theorem dX7_endWord_51 : decode cX7_endWord 51 = .ok (.goto 26, 3) := by decide +kernel
theorem dX7_endWord_54 : decode cX7_endWord 54 = .ok (.aload_n 0, 1) := by decide +kernel
theorem dX7_endWord_55 : decode cX7_endWord 55 = .ok (.getfield 12, 3) := by decide +kernel
theorem dX7_endWord_58 : decode cX7_endWord 58 = .ok (.iload_n 2, 1) := by decide +kernel
theorem dX7_endWord_59 : decode cX7_endWord 59 = .ok (.iconst 1, 1) := by decide +kernel
theorem dX7_endWord_60 : decode cX7_endWord 60 = .ok (.aload_n 0, 1) := by decide +kernel
theorem dX7_endWord_61 : decode cX7_endWord 61 = .ok (.getfield 25, 3) := by decide +kernel
theorem dX7_endWord_64 : decode cX7_endWord 64 = .ok (.bipush 43, 2) := by decide +kernel
theorem dX7_endWord_66 : decode cX7_endWord 66 = .ok (.if_icmp .ne 7, 3) := by decide +kernel
theorem dX7_endWord_69 : decode cX7_endWord 69 = .ok (.iconst 1, 1) := by decide +kernel
theorem dX7_endWord_70 : decode cX7_endWord 70 = .ok (.goto 4, 3) := by decide +kernel
theorem dX7_endWord_73 : decode cX7_endWord 73 = .ok (.iconst 0, 1) := by decide +kernel
theorem dX7_endWord_74 : decode cX7_endWord 74 = .ok (.invokevirtual 104, 3) := by decide +kernel
theorem dX7_endWord_77 : decode cX7_endWord 77 = .ok (.aload_n 0, 1) := by decide +kernel
theorem dX7_endWord_78 : decode cX7_endWord 78 = .ok (.iconst 0, 1) := by decide +kernel
theorem dX7_endWord_79 : decode cX7_endWord 79 = .ok (.putfield 22, 3) := by decide +kernel
theorem dX7_endWord_82 : decode cX7_endWord 82 = .ok (.iconst 1, 1) := by decide +kernel
theorem dX7_endWord_83 : decode cX7_endWord 83 = .ok (.ireturn, 1) := by decide +kernel
theorem dX7_readBoost_0 : decode cX7_readBoost 0 = .ok (.iload_n 1, 1) := by decide +kernel
theorem dX7_readBoost_1 : decode cX7_readBoost 1 = .ok (.invokestatic 108, 3) := by decide +kernel
theorem dX7_readBoost_4 : decode cX7_readBoost 4 = .ok (.ifCond .ne 5, 3) := by decide +kernel
theorem dX7_readBoost_7 : decode cX7_readBoost 7 = .ok (.iconst 1, 1) := by decide +kernel
theorem dX7_readBoost_8 : decode cX7_readBoost 8 = .ok (.ireturn, 1) := by decide +kernel
theorem dX7_readBoost_9 : decode cX7_readBoost 9 = .ok (.aload_n 0, 1) := by decide +kernel
theorem dX7_readBoost_10 : decode cX7_readBoost 10 = .ok (.getfield 12, 3) := by decide +kernel
theorem dX7_readBoost_13 : decode cX7_readBoost 13 = .ok (.aload_n 0, 1) := by decide +kernel
theorem dX7_readBoost_14 : decode cX7_readBoost 14 = .ok (.getfield 35, 3) := by decide +kernel
theorem dX7_readBoost_17 : decode cX7_readBoost 17 = .ok (.aload_n 0, 1) := by decide +kernel
theorem dX7_readBoost_18 : decode cX7_readBoost 18 = .ok (.getfield 31, 3) := by decide +kernel
theorem dX7_readBoost_21 : decode cX7_readBoost 21 = .ok (.invokevirtual 72, 3) := by decide +kernel
theorem dX7_readBoost_24 : decode cX7_readBoost 24 = .ok (.iload_n 1, 1) := by decide +kernel
theorem dX7_readBoost_25 : decode cX7_readBoost 25 = .ok (.bipush 48, 2) := by decide +kernel
theorem dX7_readBoost_27 : decode cX7_readBoost 27 = .ok (.isub, 1) := by decide +kernel
theorem dX7_readBoost_28 : decode cX7_readBoost 28 = .ok (.aload_n 0, 1) := by decide +kernel
theorem dX7_readBoost_29 : decode cX7_readBoost 29 = .ok (.getfield 25, 3) := by decide +kernel
theorem dX7_readBoost_32 : decode cX7_readBoost 32 = .ok (.bipush 43, 2) := by decide +kernel
theorem dX7_readBoost_34 : decode cX7_readBoost 34 = .ok (.if_icmp .ne 7, 3) := by decide +kernel
theorem dX7_readBoost_37 : decode cX7_readBoost 37 = .ok (.iconst 1, 1) := by decide +kernel
theorem dX7_readBoost_38 : decode cX7_readBoost 38 = .ok (.goto 4, 3) := by decide +kernel
theorem dX7_readBoost_41 : decode cX7_readBoost 41 = .ok (.iconst 0, 1) := by decide +kernel
theorem dX7_readBoost_42 : decode cX7_readBoost 42 = .ok (.invokevirtual 104, 3) := by decide +kernel
theorem dX7_readBoost_45 : decode cX7_readBoost 45 = .ok (.aload_n 0, 1) := by decide +kernel
theorem dX7_readBoost_46 : decode cX7_readBoost 46 = .ok (.iconst 0, 1) := by decide +kernel
theorem dX7_readBoost_47 : decode cX7_readBoost 47 = .ok (.putfield 22, 3) := by decide +kernel
theorem dX7_readBoost_50 : decode cX7_readBoost 50 = .ok (.iconst 0, 1) := by decide +kernel
theorem dX7_readBoost_51 : decode cX7_readBoost 51 = .ok (.ireturn, 1) := by decide +kernel
theorem dX7_readReach_0 : decode cX7_readReach 0 = .ok (.iload_n 1, 1) := by decide +kernel
theorem dX7_readReach_1 : decode cX7_readReach 1 = .ok (.invokestatic 108, 3) := by decide +kernel
theorem dX7_readReach_4 : decode cX7_readReach 4 = .ok (.ifCond .ne 5, 3) := by decide +kernel
theorem dX7_readReach_7 : decode cX7_readReach 7 = .ok (.iconst 1, 1) := by decide +kernel
theorem dX7_readReach_8 : decode cX7_readReach 8 = .ok (.ireturn, 1) := by decide +kernel
theorem dX7_readReach_9 : decode cX7_readReach 9 = .ok (.aload_n 0, 1) := by decide +kernel
theorem dX7_readReach_10 : decode cX7_readReach 10 = .ok (.getfield 12, 3) := by decide +kernel
theorem dX7_readReach_13 : decode cX7_readReach 13 = .ok (.iload_n 1, 1) := by decide +kernel
theorem dX7_readReach_14 : decode cX7_readReach 14 = .ok (.bipush 48, 2) := by decide +kernel
theorem dX7_readReach_16 : decode cX7_readReach 16 = .ok (.isub, 1) := by decide +kernel
theorem dX7_readReach_17 : decode cX7_readReach 17 = .ok (.putfield 85, 3) := by decide +kernel
theorem dX7_readReach_20 : decode cX7_readReach 20 = .ok (.aload_n 0, 1) := by decide +kernel
theorem dX7_readReach_21 : decode cX7_readReach 21 = .ok (.iconst 0, 1) := by decide +kernel
theorem dX7_readReach_22 : decode cX7_readReach 22 = .ok (.putfield 22, 3) := by decide +kernel
theorem dX7_readReach_25 : decode cX7_readReach 25 = .ok (.iconst 0, 1) := by decide +kernel
theorem dX7_readReach_26 : decode cX7_readReach 26 = .ok (.ireturn, 1) := by decide +kernel
theorem dX7_stepInPhrase_0 : decode cX7_stepInPhrase 0 = .ok (.iload_n 1, 1) := by decide +kernel
theorem dX7_stepInPhrase_1 : decode cX7_stepInPhrase 1 = .ok (.bipush 32, 2) := by decide +kernel
theorem dX7_stepInPhrase_3 : decode cX7_stepInPhrase 3 = .ok (.if_icmp .ne 5, 3) := by decide +kernel
theorem dX7_stepInPhrase_6 : decode cX7_stepInPhrase 6 = .ok (.iconst 0, 1) := by decide +kernel
theorem dX7_stepInPhrase_7 : decode cX7_stepInPhrase 7 = .ok (.ireturn, 1) := by decide +kernel
theorem dX7_stepInPhrase_8 : decode cX7_stepInPhrase 8 = .ok (.iload_n 1, 1) := by decide +kernel
theorem dX7_stepInPhrase_9 : decode cX7_stepInPhrase 9 = .ok (.bipush 34, 2) := by decide +kernel
theorem dX7_stepInPhrase_11 : decode cX7_stepInPhrase 11 = .ok (.if_icmp .ne 21, 3) := by decide +kernel
theorem dX7_stepInPhrase_14 : decode cX7_stepInPhrase 14 = .ok (.aload_n 0, 1) := by decide +kernel
theorem dX7_stepInPhrase_15 : decode cX7_stepInPhrase 15 = .ok (.getfield 12, 3) := by decide +kernel
theorem dX7_stepInPhrase_18 : decode cX7_stepInPhrase 18 = .ok (.invokevirtual 111, 3) := by decide +kernel
theorem dX7_stepInPhrase_21 : decode cX7_stepInPhrase 21 = .ok (.iconst 2, 1) := by decide +kernel
theorem dX7_stepInPhrase_22 : decode cX7_stepInPhrase 22 = .ok (.if_icmp .lt 10, 3) := by decide +kernel
theorem dX7_stepInPhrase_25 : decode cX7_stepInPhrase 25 = .ok (.aload_n 0, 1) := by decide +kernel
theorem dX7_stepInPhrase_26 : decode cX7_stepInPhrase 26 = .ok (.iconst 0, 1) := by decide +kernel
theorem dX7_stepInPhrase_27 : decode cX7_stepInPhrase 27 = .ok (.putfield 22, 3) := by decide +kernel
theorem dX7_stepInPhrase_30 : decode cX7_stepInPhrase 30 = .ok (.iconst 0, 1) := by decide +kernel
theorem dX7_stepInPhrase_31 : decode cX7_stepInPhrase 31 = .ok (.ireturn, 1) := by decide +kernel
theorem dX7_stepInPhrase_32 : decode cX7_stepInPhrase 32 = .ok (.iload_n 1, 1) := by decide +kernel
theorem dX7_stepInPhrase_33 : decode cX7_stepInPhrase 33 = .ok (.invokestatic 50, 3) := by decide +kernel
theorem dX7_stepInPhrase_36 : decode cX7_stepInPhrase 36 = .ok (.ifCond .eq 16, 3) := by decide +kernel
theorem dX7_stepInPhrase_39 : decode cX7_stepInPhrase 39 = .ok (.aload_n 0, 1) := by decide +kernel
theorem dX7_stepInPhrase_40 : decode cX7_stepInPhrase 40 = .ok (.getfield 12, 3) := by decide +kernel
theorem dX7_stepInPhrase_43 : decode cX7_stepInPhrase 43 = .ok (.invokevirtual 111, 3) := by decide +kernel
theorem dX7_stepInPhrase_46 : decode cX7_stepInPhrase 46 = .ok (.iconst 4, 1) := by decide +kernel
theorem dX7_stepInPhrase_47 : decode cX7_stepInPhrase 47 = .ok (.if_icmp .lt 5, 3) := by decide +kernel
theorem dX7_stepInPhrase_50 : decode cX7_stepInPhrase 50 = .ok (.iconst 2, 1) := by decide +kernel
theorem dX7_stepInPhrase_51 : decode cX7_stepInPhrase 51 = .ok (.ireturn, 1) := by decide +kernel
theorem dX7_stepInPhrase_52 : decode cX7_stepInPhrase 52 = .ok (.aload_n 0, 1) := by decide +kernel
theorem dX7_stepInPhrase_53 : decode cX7_stepInPhrase 53 = .ok (.iload_n 1, 1) := by decide +kernel
theorem dX7_stepInPhrase_54 : decode cX7_stepInPhrase 54 = .ok (.bipush 6, 2) := by decide +kernel
theorem dX7_stepInPhrase_56 : decode cX7_stepInPhrase 56 = .ok (.invokevirtual 46, 3) := by decide +kernel
theorem dX7_stepInPhrase_59 : decode cX7_stepInPhrase 59 = .ok (.ireturn, 1) := by decide +kernel
theorem dX7_isDigit_0 : decode cX7_isDigit 0 = .ok (.iload_n 0, 1) := by decide +kernel
theorem dX7_isDigit_1 : decode cX7_isDigit 1 = .ok (.bipush 49, 2) := by decide +kernel
theorem dX7_isDigit_3 : decode cX7_isDigit 3 = .ok (.if_icmp .lt 13, 3) := by decide +kernel
theorem dX7_isDigit_6 : decode cX7_isDigit 6 = .ok (.iload_n 0, 1) := by decide +kernel
theorem dX7_isDigit_7 : decode cX7_isDigit 7 = .ok (.bipush 57, 2) := by decide +kernel
theorem dX7_isDigit_9 : decode cX7_isDigit 9 = .ok (.if_icmp .gt 7, 3) := by decide +kernel
theorem dX7_isDigit_12 : decode cX7_isDigit 12 = .ok (.iconst 1, 1) := by decide +kernel
theorem dX7_isDigit_13 : decode cX7_isDigit 13 = .ok (.goto 4, 3) := by decide +kernel
theorem dX7_isDigit_16 : decode cX7_isDigit 16 = .ok (.iconst 0, 1) := by decide +kernel
theorem dX7_isDigit_17 : decode cX7_isDigit 17 = .ok (.ireturn, 1) := by decide +kernel
theorem dX8_init_0 : decode cX8_init 0 = .ok (.aload_n 0, 1) := by decide +kernel
theorem dX8_init_1 : decode cX8_init 1 = .ok (.invokespecial 3, 3) := by decide +kernel
theorem dX8_init_4 : decode cX8_init 4 = .ok (.aload_n 0, 1) := by decide +kernel
theorem dX8_init_5 : decode cX8_init 5 = .ok (.bipush 64, 2) := by decide +kernel
theorem dX8_init_7 : decode cX8_init 7 = .ok (.newarray .int, 2) := by decide +kernel
theorem dX8_init_9 : decode cX8_init 9 = .ok (.putfield 9, 3) := by decide +kernel
theorem dX8_init_12 : decode cX8_init 12 = .ok (.aload_n 0, 1) := by decide +kernel
theorem dX8_init_13 : decode cX8_init 13 = .ok (.bipush 64, 2) := by decide +kernel
theorem dX8_init_15 : decode cX8_init 15 = .ok (.newarray .int, 2) := by decide +kernel
theorem dX8_init_17 : decode cX8_init 17 = .ok (.putfield 15, 3) := by decide +kernel
theorem dX8_init_20 : decode cX8_init 20 = .ok (.aload_n 0, 1) := by decide +kernel
theorem dX8_init_21 : decode cX8_init 21 = .ok (.iconst 0, 1) := by decide +kernel
theorem dX8_init_22 : decode cX8_init 22 = .ok (.putfield 18, 3) := by decide +kernel
theorem dX8_init_25 : decode cX8_init 25 = .ok (.aload_n 0, 1) := by decide +kernel
theorem dX8_init_26 : decode cX8_init 26 = .ok (.aload_n 1, 1) := by decide +kernel
theorem dX8_init_27 : decode cX8_init 27 = .ok (.putfield 22, 3) := by decide +kernel
theorem dX8_init_30 : decode cX8_init 30 = .ok (.aload_n 0, 1) := by decide +kernel
theorem dX8_init_31 : decode cX8_init 31 = .ok (.aload_n 2, 1) := by decide +kernel
theorem dX8_init_32 : decode cX8_init 32 = .ok (.putfield 26, 3) := by decide +kernel
theorem dX8_init_35 : decode cX8_init 35 = .ok (.return_, 1) := by decide +kernel
theorem dX8_rank_0 : decode cX8_rank 0 = .ok (.aload_n 0, 1) := by decide +kernel
theorem dX8_rank_1 : decode cX8_rank 1 = .ok (.iconst 0, 1) := by decide +kernel
theorem dX8_rank_2 : decode cX8_rank 2 = .ok (.putfield 18, 3) := by decide +kernel
theorem dX8_rank_5 : decode cX8_rank 5 = .ok (.iconst 0, 1) := by decide +kernel
theorem dX8_rank_6 : decode cX8_rank 6 = .ok (.istore_n 2, 1) := by decide +kernel
theorem dX8_rank_7 : decode cX8_rank 7 = .ok (.iload_n 2, 1) := by decide +kernel
theorem dX8_rank_8 : decode cX8_rank 8 = .ok (.aload_n 0, 1) := by decide +kernel
theorem dX8_rank_9 : decode cX8_rank 9 = .ok (.getfield 22, 3) := by decide +kernel
theorem dX8_rank_12 : decode cX8_rank 12 = .ok (.getfield 30, 3) := by decide +kernel
theorem dX8_rank_15 : decode cX8_rank 15 = .ok (.if_icmp .ge 46, 3) := by decide +kernel
theorem dX8_rank_18 : decode cX8_rank 18 = .ok (.aload_n 0, 1) := by decide +kernel
theorem dX8_rank_19 : decode cX8_rank 19 = .ok (.getfield 22, 3) := by decide +kernel
theorem dX8_rank_22 : decode cX8_rank 22 = .ok (.iload_n 2, 1) := by decide +kernel
theorem dX8_rank_23 : decode cX8_rank 23 = .ok (.invokevirtual 35, 3) := by decide +kernel
theorem dX8_rank_26 : decode cX8_rank 26 = .ok (.ifCond .eq 29, 3) := by decide +kernel
theorem dX8_rank_29 : decode cX8_rank 29 = .ok (.aload_n 0, 1) := by decide +kernel
theorem dX8_rank_30 : decode cX8_rank 30 = .ok (.getfield 26, 3) := by decide +kernel
theorem dX8_rank_33 : decode cX8_rank 33 = .ok (.iload_n 2, 1) := by decide +kernel
theorem dX8_rank_34 : decode cX8_rank 34 = .ok (.iload_n 1, 1) := by decide +kernel
theorem dX8_rank_35 : decode cX8_rank 35 = .ok (.invokevirtual 39, 3) := by decide +kernel
theorem dX8_rank_38 : decode cX8_rank 38 = .ok (.ifCond .ne 17, 3) := by decide +kernel
theorem dX8_rank_41 : decode cX8_rank 41 = .ok (.aload_n 0, 1) := by decide +kernel
theorem dX8_rank_42 : decode cX8_rank 42 = .ok (.iload_n 2, 1) := by decide +kernel
theorem dX8_rank_43 : decode cX8_rank 43 = .ok (.aload_n 0, 1) := by decide +kernel
theorem dX8_rank_44 : decode cX8_rank 44 = .ok (.getfield 26, 3) := by decide +kernel
theorem dX8_rank_47 : decode cX8_rank 47 = .ok (.iload_n 2, 1) := by decide +kernel
theorem dX8_rank_48 : decode cX8_rank 48 = .ok (.iload_n 1, 1) := by decide +kernel
theorem dX8_rank_49 : decode cX8_rank 49 = .ok (.invokevirtual 45, 3) := by decide +kernel
theorem dX8_rank_52 : decode cX8_rank 52 = .ok (.invokevirtual 48, 3) := by decide +kernel
theorem dX8_rank_55 : decode cX8_rank 55 = .ok (.iinc 2 1, 3) := by decide +kernel
theorem dX8_rank_58 : decode cX8_rank 58 = .ok (.goto (-51), 3) := by decide +kernel
theorem dX8_rank_61 : decode cX8_rank 61 = .ok (.return_, 1) := by decide +kernel
theorem dX8_insert_0 : decode cX8_insert 0 = .ok (.aload_n 0, 1) := by decide +kernel
theorem dX8_insert_1 : decode cX8_insert 1 = .ok (.getfield 18, 3) := by decide +kernel
theorem dX8_insert_4 : decode cX8_insert 4 = .ok (.istore_n 3, 1) := by decide +kernel
theorem dX8_insert_5 : decode cX8_insert 5 = .ok (.iload_n 3, 1) := by decide +kernel
theorem dX8_insert_6 : decode cX8_insert 6 = .ok (.ifCond .le 49, 3) := by decide +kernel
theorem dX8_insert_9 : decode cX8_insert 9 = .ok (.aload_n 0, 1) := by decide +kernel
theorem dX8_insert_10 : decode cX8_insert 10 = .ok (.getfield 15, 3) := by decide +kernel
theorem dX8_insert_13 : decode cX8_insert 13 = .ok (.iload_n 3, 1) := by decide +kernel
theorem dX8_insert_14 : decode cX8_insert 14 = .ok (.iconst 1, 1) := by decide +kernel
theorem dX8_insert_15 : decode cX8_insert 15 = .ok (.isub, 1) := by decide +kernel
theorem dX8_insert_16 : decode cX8_insert 16 = .ok (.iaload, 1) := by decide +kernel
theorem dX8_insert_17 : decode cX8_insert 17 = .ok (.iload_n 2, 1) := by decide +kernel
theorem dX8_insert_18 : decode cX8_insert 18 = .ok (.if_icmp .ge 37, 3) := by decide +kernel
theorem dX8_insert_21 : decode cX8_insert 21 = .ok (.aload_n 0, 1) := by decide +kernel
theorem dX8_insert_22 : decode cX8_insert 22 = .ok (.getfield 9, 3) := by decide +kernel
theorem dX8_insert_25 : decode cX8_insert 25 = .ok (.iload_n 3, 1) := by decide +kernel
theorem dX8_insert_26 : decode cX8_insert 26 = .ok (.aload_n 0, 1) := by decide +kernel
theorem dX8_insert_27 : decode cX8_insert 27 = .ok (.getfield 9, 3) := by decide +kernel
theorem dX8_insert_30 : decode cX8_insert 30 = .ok (.iload_n 3, 1) := by decide +kernel
theorem dX8_insert_31 : decode cX8_insert 31 = .ok (.iconst 1, 1) := by decide +kernel
theorem dX8_insert_32 : decode cX8_insert 32 = .ok (.isub, 1) := by decide +kernel
theorem dX8_insert_33 : decode cX8_insert 33 = .ok (.iaload, 1) := by decide +kernel
theorem dX8_insert_34 : decode cX8_insert 34 = .ok (.iastore, 1) := by decide +kernel
theorem dX8_insert_35 : decode cX8_insert 35 = .ok (.aload_n 0, 1) := by decide +kernel
theorem dX8_insert_36 : decode cX8_insert 36 = .ok (.getfield 15, 3) := by decide +kernel
theorem dX8_insert_39 : decode cX8_insert 39 = .ok (.iload_n 3, 1) := by decide +kernel
theorem dX8_insert_40 : decode cX8_insert 40 = .ok (.aload_n 0, 1) := by decide +kernel
theorem dX8_insert_41 : decode cX8_insert 41 = .ok (.getfield 15, 3) := by decide +kernel
theorem dX8_insert_44 : decode cX8_insert 44 = .ok (.iload_n 3, 1) := by decide +kernel
theorem dX8_insert_45 : decode cX8_insert 45 = .ok (.iconst 1, 1) := by decide +kernel
theorem dX8_insert_46 : decode cX8_insert 46 = .ok (.isub, 1) := by decide +kernel
theorem dX8_insert_47 : decode cX8_insert 47 = .ok (.iaload, 1) := by decide +kernel
theorem dX8_insert_48 : decode cX8_insert 48 = .ok (.iastore, 1) := by decide +kernel
theorem dX8_insert_49 : decode cX8_insert 49 = .ok (.iinc 3 (-1), 3) := by decide +kernel
theorem dX8_insert_52 : decode cX8_insert 52 = .ok (.goto (-47), 3) := by decide +kernel
theorem dX8_insert_55 : decode cX8_insert 55 = .ok (.aload_n 0, 1) := by decide +kernel
theorem dX8_insert_56 : decode cX8_insert 56 = .ok (.getfield 9, 3) := by decide +kernel
theorem dX8_insert_59 : decode cX8_insert 59 = .ok (.iload_n 3, 1) := by decide +kernel
theorem dX8_insert_60 : decode cX8_insert 60 = .ok (.iload_n 1, 1) := by decide +kernel
theorem dX8_insert_61 : decode cX8_insert 61 = .ok (.iastore, 1) := by decide +kernel
theorem dX8_insert_62 : decode cX8_insert 62 = .ok (.aload_n 0, 1) := by decide +kernel
theorem dX8_insert_63 : decode cX8_insert 63 = .ok (.getfield 15, 3) := by decide +kernel
theorem dX8_insert_66 : decode cX8_insert 66 = .ok (.iload_n 3, 1) := by decide +kernel
theorem dX8_insert_67 : decode cX8_insert 67 = .ok (.iload_n 2, 1) := by decide +kernel
theorem dX8_insert_68 : decode cX8_insert 68 = .ok (.iastore, 1) := by decide +kernel
theorem dX8_insert_69 : decode cX8_insert 69 = .ok (.aload_n 0, 1) := by decide +kernel
theorem dX8_insert_70 : decode cX8_insert 70 = .ok (.dup, 1) := by decide +kernel
theorem dX8_insert_71 : decode cX8_insert 71 = .ok (.getfield 18, 3) := by decide +kernel
theorem dX8_insert_74 : decode cX8_insert 74 = .ok (.iconst 1, 1) := by decide +kernel
theorem dX8_insert_75 : decode cX8_insert 75 = .ok (.iadd, 1) := by decide +kernel
theorem dX8_insert_76 : decode cX8_insert 76 = .ok (.putfield 18, 3) := by decide +kernel
theorem dX8_insert_79 : decode cX8_insert 79 = .ok (.return_, 1) := by decide +kernel
theorem dX8_placeOf_0 : decode cX8_placeOf 0 = .ok (.iconst 0, 1) := by decide +kernel
theorem dX8_placeOf_1 : decode cX8_placeOf 1 = .ok (.istore_n 2, 1) := by decide +kernel
theorem dX8_placeOf_2 : decode cX8_placeOf 2 = .ok (.iload_n 2, 1) := by decide +kernel
theorem dX8_placeOf_3 : decode cX8_placeOf 3 = .ok (.aload_n 0, 1) := by decide +kernel
theorem dX8_placeOf_4 : decode cX8_placeOf 4 = .ok (.getfield 18, 3) := by decide +kernel
theorem dX8_placeOf_7 : decode cX8_placeOf 7 = .ok (.if_icmp .ge 21, 3) := by decide +kernel
theorem dX8_placeOf_10 : decode cX8_placeOf 10 = .ok (.aload_n 0, 1) := by decide +kernel
theorem dX8_placeOf_11 : decode cX8_placeOf 11 = .ok (.getfield 9, 3) := by decide +kernel
theorem dX8_placeOf_14 : decode cX8_placeOf 14 = .ok (.iload_n 2, 1) := by decide +kernel
theorem dX8_placeOf_15 : decode cX8_placeOf 15 = .ok (.iaload, 1) := by decide +kernel
theorem dX8_placeOf_16 : decode cX8_placeOf 16 = .ok (.iload_n 1, 1) := by decide +kernel
theorem dX8_placeOf_17 : decode cX8_placeOf 17 = .ok (.if_icmp .ne 5, 3) := by decide +kernel
theorem dX8_placeOf_20 : decode cX8_placeOf 20 = .ok (.iload_n 2, 1) := by decide +kernel
theorem dX8_placeOf_21 : decode cX8_placeOf 21 = .ok (.ireturn, 1) := by decide +kernel
theorem dX8_placeOf_22 : decode cX8_placeOf 22 = .ok (.iinc 2 1, 3) := by decide +kernel
theorem dX8_placeOf_25 : decode cX8_placeOf 25 = .ok (.goto (-23), 3) := by decide +kernel
theorem dX8_placeOf_28 : decode cX8_placeOf 28 = .ok (.iconst (-1), 1) := by decide +kernel
theorem dX8_placeOf_29 : decode cX8_placeOf 29 = .ok (.ireturn, 1) := by decide +kernel
theorem dX9_init_0 : decode cX9_init 0 = .ok (.aload_n 0, 1) := by decide +kernel
theorem dX9_init_1 : decode cX9_init 1 = .ok (.invokespecial 3, 3) := by decide +kernel
theorem dX9_init_4 : decode cX9_init 4 = .ok (.aload_n 0, 1) := by decide +kernel
theorem dX9_init_5 : decode cX9_init 5 = .ok (.sipush 255, 3) := by decide +kernel
theorem dX9_init_8 : decode cX9_init 8 = .ok (.newarray .long, 2) := by decide +kernel
theorem dX9_init_10 : decode cX9_init 10 = .ok (.putfield 9, 3) := by decide +kernel
theorem dX9_init_13 : decode cX9_init 13 = .ok (.aload_n 0, 1) := by decide +kernel
theorem dX9_init_14 : decode cX9_init 14 = .ok (.iconst 0, 1) := by decide +kernel
theorem dX9_init_15 : decode cX9_init 15 = .ok (.putfield 15, 3) := by decide +kernel
theorem dX9_init_18 : decode cX9_init 18 = .ok (.return_, 1) := by decide +kernel
theorem dX9_numberOf_0 : decode cX9_numberOf 0 = .ok (.iconst 0, 1) := by decide +kernel
theorem dX9_numberOf_1 : decode cX9_numberOf 1 = .ok (.istore_n 3, 1) := by decide +kernel
theorem dX9_numberOf_2 : decode cX9_numberOf 2 = .ok (.iload_n 3, 1) := by decide +kernel
theorem dX9_numberOf_3 : decode cX9_numberOf 3 = .ok (.aload_n 0, 1) := by decide +kernel
theorem dX9_numberOf_4 : decode cX9_numberOf 4 = .ok (.getfield 15, 3) := by decide +kernel
theorem dX9_numberOf_7 : decode cX9_numberOf 7 = .ok (.if_icmp .ge 22, 3) := by decide +kernel
theorem dX9_numberOf_10 : decode cX9_numberOf 10 = .ok (.aload_n 0, 1) := by decide +kernel
theorem dX9_numberOf_11 : decode cX9_numberOf 11 = .ok (.getfield 9, 3) := by decide +kernel
theorem dX9_numberOf_14 : decode cX9_numberOf 14 = .ok (.iload_n 3, 1) := by decide +kernel
theorem dX9_numberOf_15 : decode cX9_numberOf 15 = .ok (.laload, 1) := by decide +kernel
theorem dX9_numberOf_16 : decode cX9_numberOf 16 = .ok (.lload_n 1, 1) := by decide +kernel
theorem dX9_numberOf_17 : decode cX9_numberOf 17 = .ok (.lcmp, 1) := by decide +kernel
theorem dX9_numberOf_18 : decode cX9_numberOf 18 = .ok (.ifCond .ne 5, 3) := by decide +kernel
theorem dX9_numberOf_21 : decode cX9_numberOf 21 = .ok (.iload_n 3, 1) := by decide +kernel
theorem dX9_numberOf_22 : decode cX9_numberOf 22 = .ok (.ireturn, 1) := by decide +kernel
theorem dX9_numberOf_23 : decode cX9_numberOf 23 = .ok (.iinc 3 1, 3) := by decide +kernel
theorem dX9_numberOf_26 : decode cX9_numberOf 26 = .ok (.goto (-24), 3) := by decide +kernel
theorem dX9_numberOf_29 : decode cX9_numberOf 29 = .ok (.iconst (-1), 1) := by decide +kernel
theorem dX9_numberOf_30 : decode cX9_numberOf 30 = .ok (.ireturn, 1) := by decide +kernel
theorem dX9_learn_0 : decode cX9_learn 0 = .ok (.aload_n 0, 1) := by decide +kernel
theorem dX9_learn_1 : decode cX9_learn 1 = .ok (.lload_n 1, 1) := by decide +kernel
theorem dX9_learn_2 : decode cX9_learn 2 = .ok (.invokevirtual 19, 3) := by decide +kernel
theorem dX9_learn_5 : decode cX9_learn 5 = .ok (.istore_n 3, 1) := by decide +kernel
theorem dX9_learn_6 : decode cX9_learn 6 = .ok (.iload_n 3, 1) := by decide +kernel
theorem dX9_learn_7 : decode cX9_learn 7 = .ok (.iconst (-1), 1) := by decide +kernel
theorem dX9_learn_8 : decode cX9_learn 8 = .ok (.if_icmp .ne 13, 3) := by decide +kernel
theorem dX9_learn_11 : decode cX9_learn 11 = .ok (.aload_n 0, 1) := by decide +kernel
theorem dX9_learn_12 : decode cX9_learn 12 = .ok (.getfield 15, 3) := by decide +kernel
theorem dX9_learn_15 : decode cX9_learn 15 = .ok (.sipush 255, 3) := by decide +kernel
theorem dX9_learn_18 : decode cX9_learn 18 = .ok (.if_icmp .lt 5, 3) := by decide +kernel
theorem dX9_learn_21 : decode cX9_learn 21 = .ok (.iload_n 3, 1) := by decide +kernel
theorem dX9_learn_22 : decode cX9_learn 22 = .ok (.ireturn, 1) := by decide +kernel
theorem dX9_learn_23 : decode cX9_learn 23 = .ok (.aload_n 0, 1) := by decide +kernel
theorem dX9_learn_24 : decode cX9_learn 24 = .ok (.getfield 9, 3) := by decide +kernel
theorem dX9_learn_27 : decode cX9_learn 27 = .ok (.aload_n 0, 1) := by decide +kernel
theorem dX9_learn_28 : decode cX9_learn 28 = .ok (.getfield 15, 3) := by decide +kernel
theorem dX9_learn_31 : decode cX9_learn 31 = .ok (.lload_n 1, 1) := by decide +kernel
theorem dX9_learn_32 : decode cX9_learn 32 = .ok (.lastore, 1) := by decide +kernel
theorem dX9_learn_33 : decode cX9_learn 33 = .ok (.aload_n 0, 1) := by decide +kernel
theorem dX9_learn_34 : decode cX9_learn 34 = .ok (.dup, 1) := by decide +kernel
theorem dX9_learn_35 : decode cX9_learn 35 = .ok (.getfield 15, 3) := by decide +kernel
theorem dX9_learn_38 : decode cX9_learn 38 = .ok (.iconst 1, 1) := by decide +kernel
theorem dX9_learn_39 : decode cX9_learn 39 = .ok (.iadd, 1) := by decide +kernel
theorem dX9_learn_40 : decode cX9_learn 40 = .ok (.putfield 15, 3) := by decide +kernel
theorem dX9_learn_43 : decode cX9_learn 43 = .ok (.aload_n 0, 1) := by decide +kernel
theorem dX9_learn_44 : decode cX9_learn 44 = .ok (.getfield 15, 3) := by decide +kernel
theorem dX9_learn_47 : decode cX9_learn 47 = .ok (.iconst 1, 1) := by decide +kernel
theorem dX9_learn_48 : decode cX9_learn 48 = .ok (.isub, 1) := by decide +kernel
theorem dX9_learn_49 : decode cX9_learn 49 = .ok (.ireturn, 1) := by decide +kernel
theorem dX9_lettersOf_0 : decode cX9_lettersOf 0 = .ok (.iconst 0, 1) := by decide +kernel
theorem dX9_lettersOf_1 : decode cX9_lettersOf 1 = .ok (.istore_n 2, 1) := by decide +kernel
theorem dX9_lettersOf_2 : decode cX9_lettersOf 2 = .ok (.aload_n 0, 1) := by decide +kernel
theorem dX9_lettersOf_3 : decode cX9_lettersOf 3 = .ok (.getfield 9, 3) := by decide +kernel
theorem dX9_lettersOf_6 : decode cX9_lettersOf 6 = .ok (.iload_n 1, 1) := by decide +kernel
theorem dX9_lettersOf_7 : decode cX9_lettersOf 7 = .ok (.laload, 1) := by decide +kernel
theorem dX9_lettersOf_8 : decode cX9_lettersOf 8 = .ok (.lstore_n 3, 1) := by decide +kernel
theorem dX9_lettersOf_9 : decode cX9_lettersOf 9 = .ok (.lload_n 3, 1) := by decide +kernel
theorem dX9_lettersOf_10 : decode cX9_lettersOf 10 = .ok (.lconst 0, 1) := by decide +kernel
theorem dX9_lettersOf_11 : decode cX9_lettersOf 11 = .ok (.lcmp, 1) := by decide +kernel
theorem dX9_lettersOf_12 : decode cX9_lettersOf 12 = .ok (.ifCond .le 15, 3) := by decide +kernel
theorem dX9_lettersOf_15 : decode cX9_lettersOf 15 = .ok (.iinc 2 1, 3) := by decide +kernel
theorem dX9_lettersOf_18 : decode cX9_lettersOf 18 = .ok (.lload_n 3, 1) := by decide +kernel
theorem dX9_lettersOf_19 : decode cX9_lettersOf 19 = .ok (.ldc2_w 23, 3) := by decide +kernel
theorem dX9_lettersOf_22 : decode cX9_lettersOf 22 = .ok (.ldiv, 1) := by decide +kernel
theorem dX9_lettersOf_23 : decode cX9_lettersOf 23 = .ok (.lstore_n 3, 1) := by decide +kernel
theorem dX9_lettersOf_24 : decode cX9_lettersOf 24 = .ok (.goto (-15), 3) := by decide +kernel
theorem dX9_lettersOf_27 : decode cX9_lettersOf 27 = .ok (.iload_n 2, 1) := by decide +kernel
theorem dX9_lettersOf_28 : decode cX9_lettersOf 28 = .ok (.ireturn, 1) := by decide +kernel
theorem dX9_letterOf_0 : decode cX9_letterOf 0 = .ok (.aload_n 0, 1) := by decide +kernel
theorem dX9_letterOf_1 : decode cX9_letterOf 1 = .ok (.iload_n 1, 1) := by decide +kernel
theorem dX9_letterOf_2 : decode cX9_letterOf 2 = .ok (.invokevirtual 25, 3) := by decide +kernel
theorem dX9_letterOf_5 : decode cX9_letterOf 5 = .ok (.istore_n 3, 1) := by decide +kernel
theorem dX9_letterOf_6 : decode cX9_letterOf 6 = .ok (.iload_n 2, 1) := by decide +kernel
theorem dX9_letterOf_7 : decode cX9_letterOf 7 = .ok (.ifCond .lt 8, 3) := by decide +kernel
theorem dX9_letterOf_10 : decode cX9_letterOf 10 = .ok (.iload_n 2, 1) := by decide +kernel
theorem dX9_letterOf_11 : decode cX9_letterOf 11 = .ok (.iload_n 3, 1) := by decide +kernel
theorem dX9_letterOf_12 : decode cX9_letterOf 12 = .ok (.if_icmp .lt 5, 3) := by decide +kernel
theorem dX9_letterOf_15 : decode cX9_letterOf 15 = .ok (.iconst (-1), 1) := by decide +kernel
theorem dX9_letterOf_16 : decode cX9_letterOf 16 = .ok (.ireturn, 1) := by decide +kernel
theorem dX9_letterOf_17 : decode cX9_letterOf 17 = .ok (.aload_n 0, 1) := by decide +kernel
theorem dX9_letterOf_18 : decode cX9_letterOf 18 = .ok (.getfield 9, 3) := by decide +kernel
theorem dX9_letterOf_21 : decode cX9_letterOf 21 = .ok (.iload_n 1, 1) := by decide +kernel
theorem dX9_letterOf_22 : decode cX9_letterOf 22 = .ok (.laload, 1) := by decide +kernel
theorem dX9_letterOf_23 : decode cX9_letterOf 23 = .ok (.lstore 4, 2) := by decide +kernel
theorem dX9_letterOf_25 : decode cX9_letterOf 25 = .ok (.iload_n 3, 1) := by decide +kernel
theorem dX9_letterOf_26 : decode cX9_letterOf 26 = .ok (.iconst 1, 1) := by decide +kernel
theorem dX9_letterOf_27 : decode cX9_letterOf 27 = .ok (.isub, 1) := by decide +kernel
theorem dX9_letterOf_28 : decode cX9_letterOf 28 = .ok (.istore 6, 2) := by decide +kernel
theorem dX9_letterOf_30 : decode cX9_letterOf 30 = .ok (.iload 6, 2) := by decide +kernel
theorem dX9_letterOf_32 : decode cX9_letterOf 32 = .ok (.iload_n 2, 1) := by decide +kernel
theorem dX9_letterOf_33 : decode cX9_letterOf 33 = .ok (.if_icmp .le 17, 3) := by decide +kernel
theorem dX9_letterOf_36 : decode cX9_letterOf 36 = .ok (.lload 4, 2) := by decide +kernel
theorem dX9_letterOf_38 : decode cX9_letterOf 38 = .ok (.ldc2_w 23, 3) := by decide +kernel
theorem dX9_letterOf_41 : decode cX9_letterOf 41 = .ok (.ldiv, 1) := by decide +kernel
theorem dX9_letterOf_42 : decode cX9_letterOf 42 = .ok (.lstore 4, 2) := by decide +kernel
theorem dX9_letterOf_44 : decode cX9_letterOf 44 = .ok (.iinc 6 (-1), 3) := by decide +kernel
theorem dX9_letterOf_47 : decode cX9_letterOf 47 = .ok (.goto (-17), 3) := by decide +kernel
theorem dX9_letterOf_50 : decode cX9_letterOf 50 = .ok (.lload 4, 2) := by decide +kernel
theorem dX9_letterOf_52 : decode cX9_letterOf 52 = .ok (.ldc2_w 23, 3) := by decide +kernel
theorem dX9_letterOf_55 : decode cX9_letterOf 55 = .ok (.lrem, 1) := by decide +kernel
theorem dX9_letterOf_56 : decode cX9_letterOf 56 = .ok (.l2i, 1) := by decide +kernel
theorem dX9_letterOf_57 : decode cX9_letterOf 57 = .ok (.iconst 1, 1) := by decide +kernel
theorem dX9_letterOf_58 : decode cX9_letterOf 58 = .ok (.isub, 1) := by decide +kernel
theorem dX9_letterOf_59 : decode cX9_letterOf 59 = .ok (.ireturn, 1) := by decide +kernel
theorem dX10_init_0 : decode cX10_init 0 = .ok (.aload_n 0, 1) := by decide +kernel
theorem dX10_init_1 : decode cX10_init 1 = .ok (.invokespecial 3, 3) := by decide +kernel
theorem dX10_init_4 : decode cX10_init 4 = .ok (.aload_n 0, 1) := by decide +kernel
theorem dX10_init_5 : decode cX10_init 5 = .ok (.sipush 300, 3) := by decide +kernel
theorem dX10_init_8 : decode cX10_init 8 = .ok (.newarray .int, 2) := by decide +kernel
theorem dX10_init_10 : decode cX10_init 10 = .ok (.putfield 9, 3) := by decide +kernel
theorem dX10_init_13 : decode cX10_init 13 = .ok (.aload_n 0, 1) := by decide +kernel
theorem dX10_init_14 : decode cX10_init 14 = .ok (.iconst 0, 1) := by decide +kernel
theorem dX10_init_15 : decode cX10_init 15 = .ok (.putfield 13, 3) := by decide +kernel
theorem dX10_init_18 : decode cX10_init 18 = .ok (.aload_n 0, 1) := by decide +kernel
theorem dX10_init_19 : decode cX10_init 19 = .ok (.iconst (-1), 1) := by decide +kernel
theorem dX10_init_20 : decode cX10_init 20 = .ok (.putfield 17, 3) := by decide +kernel
theorem dX10_init_23 : decode cX10_init 23 = .ok (.aload_n 0, 1) := by decide +kernel
theorem dX10_init_24 : decode cX10_init 24 = .ok (.iconst 0, 1) := by decide +kernel
theorem dX10_init_25 : decode cX10_init 25 = .ok (.putfield 20, 3) := by decide +kernel
theorem dX10_init_28 : decode cX10_init 28 = .ok (.aload_n 0, 1) := by decide +kernel
theorem dX10_init_29 : decode cX10_init 29 = .ok (.iconst 0, 1) := by decide +kernel
theorem dX10_init_30 : decode cX10_init 30 = .ok (.putfield 23, 3) := by decide +kernel
theorem dX10_init_33 : decode cX10_init 33 = .ok (.aload_n 0, 1) := by decide +kernel
theorem dX10_init_34 : decode cX10_init 34 = .ok (.new 26, 3) := by decide +kernel
theorem dX10_init_37 : decode cX10_init 37 = .ok (.dup, 1) := by decide +kernel
theorem dX10_init_38 : decode cX10_init 38 = .ok (.invokespecial 28, 3) := by decide +kernel
theorem dX10_init_41 : decode cX10_init 41 = .ok (.putfield 29, 3) := by decide +kernel
theorem dX10_init_44 : decode cX10_init 44 = .ok (.aload_n 0, 1) := by decide +kernel
theorem dX10_init_45 : decode cX10_init 45 = .ok (.new 33, 3) := by decide +kernel
theorem dX10_init_48 : decode cX10_init 48 = .ok (.dup, 1) := by decide +kernel
theorem dX10_init_49 : decode cX10_init 49 = .ok (.aload_n 0, 1) := by decide +kernel
theorem dX10_init_50 : decode cX10_init 50 = .ok (.getfield 29, 3) := by decide +kernel
theorem dX10_init_53 : decode cX10_init 53 = .ok (.invokespecial 35, 3) := by decide +kernel
theorem dX10_init_56 : decode cX10_init 56 = .ok (.putfield 38, 3) := by decide +kernel
theorem dX10_init_59 : decode cX10_init 59 = .ok (.aload_n 0, 1) := by decide +kernel
theorem dX10_init_60 : decode cX10_init 60 = .ok (.new 42, 3) := by decide +kernel
theorem dX10_init_63 : decode cX10_init 63 = .ok (.dup, 1) := by decide +kernel
theorem dX10_init_64 : decode cX10_init 64 = .ok (.aload_n 0, 1) := by decide +kernel
theorem dX10_init_65 : decode cX10_init 65 = .ok (.getfield 38, 3) := by decide +kernel
theorem dX10_init_68 : decode cX10_init 68 = .ok (.invokespecial 44, 3) := by decide +kernel
theorem dX10_init_71 : decode cX10_init 71 = .ok (.putfield 47, 3) := by decide +kernel
theorem dX10_init_74 : decode cX10_init 74 = .ok (.aload_n 0, 1) := by decide +kernel
theorem dX10_init_75 : decode cX10_init 75 = .ok (.new 51, 3) := by decide +kernel
theorem dX10_init_78 : decode cX10_init 78 = .ok (.dup, 1) := by decide +kernel
theorem dX10_init_79 : decode cX10_init 79 = .ok (.invokespecial 53, 3) := by decide +kernel
theorem dX10_init_82 : decode cX10_init 82 = .ok (.putfield 54, 3) := by decide +kernel
theorem dX10_init_85 : decode cX10_init 85 = .ok (.aload_n 0, 1) := by decide +kernel
theorem dX10_init_86 : decode cX10_init 86 = .ok (.new 58, 3) := by decide +kernel
theorem dX10_init_89 : decode cX10_init 89 = .ok (.dup, 1) := by decide +kernel
theorem dX10_init_90 : decode cX10_init 90 = .ok (.aload_n 0, 1) := by decide +kernel
theorem dX10_init_91 : decode cX10_init 91 = .ok (.getfield 29, 3) := by decide +kernel
theorem dX10_init_94 : decode cX10_init 94 = .ok (.invokespecial 60, 3) := by decide +kernel
theorem dX10_init_97 : decode cX10_init 97 = .ok (.putfield 61, 3) := by decide +kernel
theorem dX10_init_100 : decode cX10_init 100 = .ok (.aload_n 0, 1) := by decide +kernel
theorem dX10_init_101 : decode cX10_init 101 = .ok (.new 65, 3) := by decide +kernel
theorem dX10_init_104 : decode cX10_init 104 = .ok (.dup, 1) := by decide +kernel
theorem dX10_init_105 : decode cX10_init 105 = .ok (.aload_n 0, 1) := by decide +kernel
theorem dX10_init_106 : decode cX10_init 106 = .ok (.getfield 29, 3) := by decide +kernel
theorem dX10_init_109 : decode cX10_init 109 = .ok (.invokespecial 67, 3) := by decide +kernel
theorem dX10_init_112 : decode cX10_init 112 = .ok (.putfield 68, 3) := by decide +kernel
theorem dX10_init_115 : decode cX10_init 115 = .ok (.aload_n 0, 1) := by decide +kernel
theorem dX10_init_116 : decode cX10_init 116 = .ok (.new 72, 3) := by decide +kernel
theorem dX10_init_119 : decode cX10_init 119 = .ok (.dup, 1) := by decide +kernel
theorem dX10_init_120 : decode cX10_init 120 = .ok (.aload_n 0, 1) := by decide +kernel
theorem dX10_init_121 : decode cX10_init 121 = .ok (.getfield 38, 3) := by decide +kernel
theorem dX10_init_124 : decode cX10_init 124 = .ok (.aload_n 0, 1) := by decide +kernel
theorem dX10_init_125 : decode cX10_init 125 = .ok (.getfield 54, 3) := by decide +kernel
theorem dX10_init_128 : decode cX10_init 128 = .ok (.invokespecial 74, 3) := by decide +kernel
theorem dX10_init_131 : decode cX10_init 131 = .ok (.putfield 77, 3) := by decide +kernel
theorem dX10_init_134 : decode cX10_init 134 = .ok (.aload_n 0, 1) := by decide +kernel
theorem dX10_init_135 : decode cX10_init 135 = .ok (.new 81, 3) := by decide +kernel
theorem dX10_init_138 : decode cX10_init 138 = .ok (.dup, 1) := by decide +kernel
theorem dX10_init_139 : decode cX10_init 139 = .ok (.aload_n 0, 1) := by decide +kernel
theorem dX10_init_140 : decode cX10_init 140 = .ok (.getfield 38, 3) := by decide +kernel
theorem dX10_init_143 : decode cX10_init 143 = .ok (.aload_n 0, 1) := by decide +kernel
theorem dX10_init_144 : decode cX10_init 144 = .ok (.getfield 77, 3) := by decide +kernel
theorem dX10_init_147 : decode cX10_init 147 = .ok (.invokespecial 83, 3) := by decide +kernel
theorem dX10_init_150 : decode cX10_init 150 = .ok (.putfield 86, 3) := by decide +kernel
theorem dX10_init_153 : decode cX10_init 153 = .ok (.aload_n 0, 1) := by decide +kernel
theorem dX10_init_154 : decode cX10_init 154 = .ok (.new 81, 3) := by decide +kernel
theorem dX10_init_157 : decode cX10_init 157 = .ok (.dup, 1) := by decide +kernel
theorem dX10_init_158 : decode cX10_init 158 = .ok (.aload_n 0, 1) := by decide +kernel
theorem dX10_init_159 : decode cX10_init 159 = .ok (.getfield 38, 3) := by decide +kernel
theorem dX10_init_162 : decode cX10_init 162 = .ok (.aload_n 0, 1) := by decide +kernel
theorem dX10_init_163 : decode cX10_init 163 = .ok (.getfield 77, 3) := by decide +kernel
theorem dX10_init_166 : decode cX10_init 166 = .ok (.invokespecial 83, 3) := by decide +kernel
theorem dX10_init_169 : decode cX10_init 169 = .ok (.putfield 90, 3) := by decide +kernel
theorem dX10_init_172 : decode cX10_init 172 = .ok (.aload_n 0, 1) := by decide +kernel
theorem dX10_init_173 : decode cX10_init 173 = .ok (.new 93, 3) := by decide +kernel
theorem dX10_init_176 : decode cX10_init 176 = .ok (.dup, 1) := by decide +kernel
theorem dX10_init_177 : decode cX10_init 177 = .ok (.aload_n 0, 1) := by decide +kernel
theorem dX10_init_178 : decode cX10_init 178 = .ok (.getfield 38, 3) := by decide +kernel
theorem dX10_init_181 : decode cX10_init 181 = .ok (.aload_n 0, 1) := by decide +kernel
theorem dX10_init_182 : decode cX10_init 182 = .ok (.getfield 47, 3) := by decide +kernel
theorem dX10_init_185 : decode cX10_init 185 = .ok (.aload_n 0, 1) := by decide +kernel
theorem dX10_init_186 : decode cX10_init 186 = .ok (.getfield 54, 3) := by decide +kernel
theorem dX10_init_189 : decode cX10_init 189 = .ok (.aload_n 0, 1) := by decide +kernel
theorem dX10_init_190 : decode cX10_init 190 = .ok (.getfield 77, 3) := by decide +kernel
theorem dX10_init_193 : decode cX10_init 193 = .ok (.invokespecial 95, 3) := by decide +kernel
theorem dX10_init_196 : decode cX10_init 196 = .ok (.putfield 98, 3) := by decide +kernel
theorem dX10_init_199 : decode cX10_init 199 = .ok (.return_, 1) := by decide +kernel
theorem dX10_feed_0 : decode cX10_feed 0 = .ok (.aload_n 0, 1) := by decide +kernel
theorem dX10_feed_1 : decode cX10_feed 1 = .ok (.getfield 13, 3) := by decide +kernel
theorem dX10_feed_4 : decode cX10_feed 4 = .ok (.bipush 20, 2) := by decide +kernel
theorem dX10_feed_6 : decode cX10_feed 6 = .ok (.iadd, 1) := by decide +kernel
theorem dX10_feed_7 : decode cX10_feed 7 = .ok (.sipush 300, 3) := by decide +kernel
theorem dX10_feed_10 : decode cX10_feed 10 = .ok (.if_icmp .le 5, 3) := by decide +kernel
theorem dX10_feed_13 : decode cX10_feed 13 = .ok (.iconst (-1), 1) := by decide +kernel
theorem dX10_feed_14 : decode cX10_feed 14 = .ok (.ireturn, 1) := by decide +kernel
theorem dX10_feed_15 : decode cX10_feed 15 = .ok (.aload_n 0, 1) := by decide +kernel
theorem dX10_feed_16 : decode cX10_feed 16 = .ok (.iload_n 1, 1) := by decide +kernel
theorem dX10_feed_17 : decode cX10_feed 17 = .ok (.invokevirtual 102, 3) := by decide +kernel
theorem dX10_feed_20 : decode cX10_feed 20 = .ok (.aload_n 0, 1) := by decide +kernel
theorem dX10_feed_21 : decode cX10_feed 21 = .ok (.iload_n 2, 1) := by decide +kernel
theorem dX10_feed_22 : decode cX10_feed 22 = .ok (.invokevirtual 102, 3) := by decide +kernel
theorem dX10_feed_25 : decode cX10_feed 25 = .ok (.aload_n 0, 1) := by decide +kernel
theorem dX10_feed_26 : decode cX10_feed 26 = .ok (.iload_n 3, 1) := by decide +kernel
theorem dX10_feed_27 : decode cX10_feed 27 = .ok (.invokevirtual 102, 3) := by decide +kernel
theorem dX10_feed_30 : decode cX10_feed 30 = .ok (.aload_n 0, 1) := by decide +kernel
theorem dX10_feed_31 : decode cX10_feed 31 = .ok (.iload 4, 2) := by decide +kernel
theorem dX10_feed_33 : decode cX10_feed 33 = .ok (.invokevirtual 102, 3) := by decide +kernel
theorem dX10_feed_36 : decode cX10_feed 36 = .ok (.aload_n 0, 1) := by decide +kernel
theorem dX10_feed_37 : decode cX10_feed 37 = .ok (.iload 5, 2) := by decide +kernel
theorem dX10_feed_39 : decode cX10_feed 39 = .ok (.invokevirtual 102, 3) := by decide +kernel
theorem dX10_feed_42 : decode cX10_feed 42 = .ok (.aload_n 0, 1) := by decide +kernel
theorem dX10_feed_43 : decode cX10_feed 43 = .ok (.getfield 13, 3) := by decide +kernel
theorem dX10_feed_46 : decode cX10_feed 46 = .ok (.ireturn, 1) := by decide +kernel
theorem dX10_add_0 : decode cX10_add 0 = .ok (.aload_n 0, 1) := by decide +kernel
theorem dX10_add_1 : decode cX10_add 1 = .ok (.iload_n 1, 1) := by decide +kernel
theorem dX10_add_2 : decode cX10_add 2 = .ok (.iconst 0, 1) := by decide +kernel
theorem dX10_add_3 : decode cX10_add 3 = .ok (.aload_n 0, 1) := by decide +kernel
theorem dX10_add_4 : decode cX10_add 4 = .ok (.getfield 13, 3) := by decide +kernel
theorem dX10_add_7 : decode cX10_add 7 = .ok (.invokevirtual 106, 3) := by decide +kernel
theorem dX10_add_10 : decode cX10_add 10 = .ok (.aload_n 0, 1) := by decide +kernel
theorem dX10_add_11 : decode cX10_add 11 = .ok (.getfield 38, 3) := by decide +kernel
theorem dX10_add_14 : decode cX10_add 14 = .ok (.getfield 110, 3) := by decide +kernel
theorem dX10_add_17 : decode cX10_add 17 = .ok (.bipush 64, 2) := by decide +kernel
theorem dX10_add_19 : decode cX10_add 19 = .ok (.if_icmp .lt 7, 3) := by decide +kernel
theorem dX10_add_22 : decode cX10_add 22 = .ok (.aload_n 0, 1) := by decide +kernel
theorem dX10_add_23 : decode cX10_add 23 = .ok (.invokevirtual 113, 3) := by decide +kernel
theorem dX10_add_26 : decode cX10_add 26 = .ok (.aload_n 0, 1) := by decide +kernel
theorem dX10_add_27 : decode cX10_add 27 = .ok (.iconst 0, 1) := by decide +kernel
theorem dX10_add_28 : decode cX10_add 28 = .ok (.putfield 13, 3) := by decide +kernel
theorem dX10_add_31 : decode cX10_add 31 = .ok (.aload_n 0, 1) := by decide +kernel
theorem dX10_add_32 : decode cX10_add 32 = .ok (.getfield 61, 3) := by decide +kernel
theorem dX10_add_35 : decode cX10_add 35 = .ok (.aload_n 0, 1) := by decide +kernel
theorem dX10_add_36 : decode cX10_add 36 = .ok (.getfield 9, 3) := by decide +kernel
theorem dX10_add_39 : decode cX10_add 39 = .ok (.iload_n 1, 1) := by decide +kernel
theorem dX10_add_40 : decode cX10_add 40 = .ok (.invokevirtual 116, 3) := by decide +kernel
theorem dX10_add_43 : decode cX10_add 43 = .ok (.istore_n 2, 1) := by decide +kernel
theorem dX10_add_44 : decode cX10_add 44 = .ok (.aload_n 0, 1) := by decide +kernel
theorem dX10_add_45 : decode cX10_add 45 = .ok (.aload_n 0, 1) := by decide +kernel
theorem dX10_add_46 : decode cX10_add 46 = .ok (.getfield 61, 3) := by decide +kernel
theorem dX10_add_49 : decode cX10_add 49 = .ok (.getfield 120, 3) := by decide +kernel
theorem dX10_add_52 : decode cX10_add 52 = .ok (.putfield 17, 3) := by decide +kernel
theorem dX10_add_55 : decode cX10_add 55 = .ok (.iload_n 2, 1) := by decide +kernel
theorem dX10_add_56 : decode cX10_add 56 = .ok (.ifCond .eq 8, 3) := by decide +kernel
theorem dX10_add_59 : decode cX10_add 59 = .ok (.iload_n 2, 1) := by decide +kernel
theorem dX10_add_60 : decode cX10_add 60 = .ok (.bipush 10, 2) := by decide +kernel
theorem dX10_add_62 : decode cX10_add 62 = .ok (.isub, 1) := by decide +kernel
theorem dX10_add_63 : decode cX10_add 63 = .ok (.ireturn, 1) := by decide +kernel
theorem dX10_add_64 : decode cX10_add 64 = .ok (.aload_n 0, 1) := by decide +kernel
theorem dX10_add_65 : decode cX10_add 65 = .ok (.getfield 38, 3) := by decide +kernel
theorem dX10_add_68 : decode cX10_add 68 = .ok (.aload_n 0, 1) := by decide +kernel
theorem dX10_add_69 : decode cX10_add 69 = .ok (.getfield 61, 3) := by decide +kernel
theorem dX10_add_72 : decode cX10_add 72 = .ok (.getfield 121, 3) := by decide +kernel
theorem dX10_add_75 : decode cX10_add 75 = .ok (.aload_n 0, 1) := by decide +kernel
theorem dX10_add_76 : decode cX10_add 76 = .ok (.getfield 61, 3) := by decide +kernel
theorem dX10_add_79 : decode cX10_add 79 = .ok (.getfield 124, 3) := by decide +kernel
theorem dX10_add_82 : decode cX10_add 82 = .ok (.invokevirtual 127, 3) := by decide +kernel
theorem dX10_add_85 : decode cX10_add 85 = .ok (.ireturn, 1) := by decide +kernel
theorem dX10_ask_0 : decode cX10_ask 0 = .ok (.aload_n 0, 1) := by decide +kernel
theorem dX10_ask_1 : decode cX10_ask 1 = .ok (.iload_n 1, 1) := by decide +kernel
theorem dX10_ask_2 : decode cX10_ask 2 = .ok (.iconst 0, 1) := by decide +kernel
theorem dX10_ask_3 : decode cX10_ask 3 = .ok (.aload_n 0, 1) := by decide +kernel
theorem dX10_ask_4 : decode cX10_ask 4 = .ok (.getfield 13, 3) := by decide +kernel
theorem dX10_ask_7 : decode cX10_ask 7 = .ok (.bipush 120, 2) := by decide +kernel
theorem dX10_ask_9 : decode cX10_ask 9 = .ok (.invokestatic 130, 3) := by decide +kernel
theorem dX10_ask_12 : decode cX10_ask 12 = .ok (.invokevirtual 106, 3) := by decide +kernel
theorem dX10_ask_15 : decode cX10_ask 15 = .ok (.aload_n 0, 1) := by decide +kernel
theorem dX10_ask_16 : decode cX10_ask 16 = .ok (.iconst 0, 1) := by decide +kernel
theorem dX10_ask_17 : decode cX10_ask 17 = .ok (.putfield 13, 3) := by decide +kernel
theorem dX10_ask_20 : decode cX10_ask 20 = .ok (.aload_n 0, 1) := by decide +kernel
theorem dX10_ask_21 : decode cX10_ask 21 = .ok (.getfield 68, 3) := by decide +kernel
theorem dX10_ask_24 : decode cX10_ask 24 = .ok (.aload_n 0, 1) := by decide +kernel
theorem dX10_ask_25 : decode cX10_ask 25 = .ok (.getfield 9, 3) := by decide +kernel
theorem dX10_ask_28 : decode cX10_ask 28 = .ok (.iload_n 1, 1) := by decide +kernel
theorem dX10_ask_29 : decode cX10_ask 29 = .ok (.invokevirtual 136, 3) := by decide +kernel
theorem dX10_ask_32 : decode cX10_ask 32 = .ok (.istore_n 2, 1) := by decide +kernel
theorem dX10_ask_33 : decode cX10_ask 33 = .ok (.aload_n 0, 1) := by decide +kernel
theorem dX10_ask_34 : decode cX10_ask 34 = .ok (.aload_n 0, 1) := by decide +kernel
theorem dX10_ask_35 : decode cX10_ask 35 = .ok (.getfield 68, 3) := by decide +kernel
theorem dX10_ask_38 : decode cX10_ask 38 = .ok (.getfield 137, 3) := by decide +kernel
theorem dX10_ask_41 : decode cX10_ask 41 = .ok (.putfield 17, 3) := by decide +kernel
theorem dX10_ask_44 : decode cX10_ask 44 = .ok (.iload_n 2, 1) := by decide +kernel
theorem dX10_ask_45 : decode cX10_ask 45 = .ok (.ifCond .eq 8, 3) := by decide +kernel
theorem dX10_ask_48 : decode cX10_ask 48 = .ok (.iload_n 2, 1) := by decide +kernel
theorem dX10_ask_49 : decode cX10_ask 49 = .ok (.bipush 10, 2) := by decide +kernel
theorem dX10_ask_51 : decode cX10_ask 51 = .ok (.isub, 1) := by decide +kernel
theorem dX10_ask_52 : decode cX10_ask 52 = .ok (.ireturn, 1) := by decide +kernel
theorem dX10_ask_53 : decode cX10_ask 53 = .ok (.aload_n 0, 1) := by decide +kernel
theorem dX10_ask_54 : decode cX10_ask 54 = .ok (.getfield 54, 3) := by decide +kernel
theorem dX10_ask_57 : decode cX10_ask 57 = .ok (.aload_n 0, 1) := by decide +kernel
theorem dX10_ask_58 : decode cX10_ask 58 = .ok (.getfield 68, 3) := by decide +kernel
theorem dX10_ask_61 : decode cX10_ask 61 = .ok (.getfield 138, 3) := by decide +kernel
theorem dX10_ask_64 : decode cX10_ask 64 = .ok (.invokevirtual 141, 3) := by decide +kernel
theorem dX10_ask_67 : decode cX10_ask 67 = .ok (.aload_n 0, 1) := by decide +kernel
theorem dX10_ask_68 : decode cX10_ask 68 = .ok (.getfield 54, 3) := by decide +kernel
theorem dX10_ask_71 : decode cX10_ask 71 = .ok (.getfield 145, 3) := by decide +kernel
theorem dX10_ask_74 : decode cX10_ask 74 = .ok (.ireturn, 1) := by decide +kernel
theorem dX10_fault_0 : decode cX10_fault 0 = .ok (.aload_n 0, 1) := by decide +kernel
theorem dX10_fault_1 : decode cX10_fault 1 = .ok (.getfield 17, 3) := by decide +kernel
theorem dX10_fault_4 : decode cX10_fault 4 = .ok (.ireturn, 1) := by decide +kernel
theorem dX10_find_0 : decode cX10_find 0 = .ok (.aload_n 0, 1) := by decide +kernel
theorem dX10_find_1 : decode cX10_find 1 = .ok (.iload_n 1, 1) := by decide +kernel
theorem dX10_find_2 : decode cX10_find 2 = .ok (.iconst 0, 1) := by decide +kernel
theorem dX10_find_3 : decode cX10_find 3 = .ok (.aload_n 0, 1) := by decide +kernel
theorem dX10_find_4 : decode cX10_find 4 = .ok (.getfield 13, 3) := by decide +kernel
theorem dX10_find_7 : decode cX10_find 7 = .ok (.invokevirtual 106, 3) := by decide +kernel
theorem dX10_find_10 : decode cX10_find 10 = .ok (.aload_n 0, 1) := by decide +kernel
theorem dX10_find_11 : decode cX10_find 11 = .ok (.iconst 0, 1) := by decide +kernel
theorem dX10_find_12 : decode cX10_find 12 = .ok (.putfield 13, 3) := by decide +kernel
theorem dX10_find_15 : decode cX10_find 15 = .ok (.aload_n 0, 1) := by decide +kernel
theorem dX10_find_16 : decode cX10_find 16 = .ok (.getfield 29, 3) := by decide +kernel
theorem dX10_find_19 : decode cX10_find 19 = .ok (.aload_n 0, 1) := by decide +kernel
theorem dX10_find_20 : decode cX10_find 20 = .ok (.iload_n 1, 1) := by decide +kernel
theorem dX10_find_21 : decode cX10_find 21 = .ok (.invokevirtual 148, 3) := by decide +kernel
theorem dX10_find_24 : decode cX10_find 24 = .ok (.invokevirtual 152, 3) := by decide +kernel
theorem dX10_find_27 : decode cX10_find 27 = .ok (.ireturn, 1) := by decide +kernel
theorem dX10_remove_0 : decode cX10_remove 0 = .ok (.aload_n 0, 1) := by decide +kernel
theorem dX10_remove_1 : decode cX10_remove 1 = .ok (.iload_n 1, 1) := by decide +kernel
theorem dX10_remove_2 : decode cX10_remove 2 = .ok (.invokevirtual 156, 3) := by decide +kernel
theorem dX10_remove_5 : decode cX10_remove 5 = .ok (.aload_n 0, 1) := by decide +kernel
theorem dX10_remove_6 : decode cX10_remove 6 = .ok (.getfield 38, 3) := by decide +kernel
theorem dX10_remove_9 : decode cX10_remove 9 = .ok (.iload_n 1, 1) := by decide +kernel
theorem dX10_remove_10 : decode cX10_remove 10 = .ok (.invokevirtual 159, 3) := by decide +kernel
theorem dX10_remove_13 : decode cX10_remove 13 = .ok (.ifCond .eq 7, 3) := by decide +kernel
theorem dX10_remove_16 : decode cX10_remove 16 = .ok (.aload_n 0, 1) := by decide +kernel
theorem dX10_remove_17 : decode cX10_remove 17 = .ok (.invokevirtual 163, 3) := by decide +kernel
theorem dX10_remove_20 : decode cX10_remove 20 = .ok (.aload_n 0, 1) := by decide +kernel
theorem dX10_remove_21 : decode cX10_remove 21 = .ok (.getfield 38, 3) := by decide +kernel
theorem dX10_remove_24 : decode cX10_remove 24 = .ok (.iload_n 1, 1) := by decide +kernel
theorem dX10_remove_25 : decode cX10_remove 25 = .ok (.invokevirtual 166, 3) := by decide +kernel
theorem dX10_remove_28 : decode cX10_remove 28 = .ok (.ireturn, 1) := by decide +kernel
theorem dX10_repack_0 : decode cX10_repack 0 = .ok (.aload_n 0, 1) := by decide +kernel
theorem dX10_repack_1 : decode cX10_repack 1 = .ok (.iload_n 1, 1) := by decide +kernel
theorem dX10_repack_2 : decode cX10_repack 2 = .ok (.invokevirtual 170, 3) := by decide +kernel
theorem dX10_repack_5 : decode cX10_repack 5 = .ok (.aload_n 0, 1) := by decide +kernel
theorem dX10_repack_6 : decode cX10_repack 6 = .ok (.getfield 38, 3) := by decide +kernel
theorem dX10_repack_9 : decode cX10_repack 9 = .ok (.iload_n 1, 1) := by decide +kernel
theorem dX10_repack_10 : decode cX10_repack 10 = .ok (.putfield 173, 3) := by decide +kernel
theorem dX10_repack_13 : decode cX10_repack 13 = .ok (.aload_n 0, 1) := by decide +kernel
theorem dX10_repack_14 : decode cX10_repack 14 = .ok (.getfield 38, 3) := by decide +kernel
theorem dX10_repack_17 : decode cX10_repack 17 = .ok (.invokevirtual 176, 3) := by decide +kernel
theorem dX10_repack_20 : decode cX10_repack 20 = .ok (.ireturn, 1) := by decide +kernel
theorem dX10_told_0 : decode cX10_told 0 = .ok (.aload_n 0, 1) := by decide +kernel
theorem dX10_told_1 : decode cX10_told 1 = .ok (.iload_n 1, 1) := by decide +kernel
theorem dX10_told_2 : decode cX10_told 2 = .ok (.iconst 0, 1) := by decide +kernel
theorem dX10_told_3 : decode cX10_told 3 = .ok (.bipush 9, 2) := by decide +kernel
theorem dX10_told_5 : decode cX10_told 5 = .ok (.invokevirtual 106, 3) := by decide +kernel
theorem dX10_told_8 : decode cX10_told 8 = .ok (.iload_n 1, 1) := by decide +kernel
theorem dX10_told_9 : decode cX10_told 9 = .ok (.tableswitch 137 0 8 #[51, 59, 67, 75, 83, 98, 113, 121, 129], 51) := by decide +kernel
theorem dX10_told_60 : decode cX10_told 60 = .ok (.aload_n 0, 1) := by decide +kernel
theorem dX10_told_61 : decode cX10_told 61 = .ok (.getfield 38, 3) := by decide +kernel
theorem dX10_told_64 : decode cX10_told 64 = .ok (.getfield 180, 3) := by decide +kernel
theorem dX10_told_67 : decode cX10_told 67 = .ok (.ireturn, 1) := by decide +kernel
theorem dX10_told_68 : decode cX10_told 68 = .ok (.aload_n 0, 1) := by decide +kernel
theorem dX10_told_69 : decode cX10_told 69 = .ok (.getfield 38, 3) := by decide +kernel
theorem dX10_told_72 : decode cX10_told 72 = .ok (.getfield 183, 3) := by decide +kernel
theorem dX10_told_75 : decode cX10_told 75 = .ok (.ireturn, 1) := by decide +kernel
theorem dX10_told_76 : decode cX10_told 76 = .ok (.aload_n 0, 1) := by decide +kernel
theorem dX10_told_77 : decode cX10_told 77 = .ok (.getfield 29, 3) := by decide +kernel
theorem dX10_told_80 : decode cX10_told 80 = .ok (.getfield 186, 3) := by decide +kernel
theorem dX10_told_83 : decode cX10_told 83 = .ok (.ireturn, 1) := by decide +kernel
theorem dX10_told_84 : decode cX10_told 84 = .ok (.aload_n 0, 1) := by decide +kernel
theorem dX10_told_85 : decode cX10_told 85 = .ok (.getfield 38, 3) := by decide +kernel
theorem dX10_told_88 : decode cX10_told 88 = .ok (.invokevirtual 189, 3) := by decide +kernel
theorem dX10_told_91 : decode cX10_told 91 = .ok (.ireturn, 1) := by decide +kernel
theorem dX10_told_92 : decode cX10_told 92 = .ok (.aload_n 0, 1) := by decide +kernel
theorem dX10_told_93 : decode cX10_told 93 = .ok (.getfield 47, 3) := by decide +kernel
theorem dX10_told_96 : decode cX10_told 96 = .ok (.aload_n 0, 1) := by decide +kernel
theorem dX10_told_97 : decode cX10_told 97 = .ok (.getfield 38, 3) := by decide +kernel
theorem dX10_told_100 : decode cX10_told 100 = .ok (.getfield 173, 3) := by decide +kernel
theorem dX10_told_103 : decode cX10_told 103 = .ok (.invokevirtual 192, 3) := by decide +kernel
theorem dX10_told_106 : decode cX10_told 106 = .ok (.ireturn, 1) := by decide +kernel
theorem dX10_told_107 : decode cX10_told 107 = .ok (.aload_n 0, 1) := by decide +kernel
theorem dX10_told_108 : decode cX10_told 108 = .ok (.getfield 47, 3) := by decide +kernel
theorem dX10_told_111 : decode cX10_told 111 = .ok (.aload_n 0, 1) := by decide +kernel
theorem dX10_told_112 : decode cX10_told 112 = .ok (.getfield 38, 3) := by decide +kernel
theorem dX10_told_115 : decode cX10_told 115 = .ok (.getfield 173, 3) := by decide +kernel
theorem dX10_told_118 : decode cX10_told 118 = .ok (.invokevirtual 195, 3) := by decide +kernel
theorem dX10_told_121 : decode cX10_told 121 = .ok (.ireturn, 1) := by decide +kernel
theorem dX10_told_122 : decode cX10_told 122 = .ok (.aload_n 0, 1) := by decide +kernel
theorem dX10_told_123 : decode cX10_told 123 = .ok (.getfield 38, 3) := by decide +kernel
theorem dX10_told_126 : decode cX10_told 126 = .ok (.getfield 173, 3) := by decide +kernel
theorem dX10_told_129 : decode cX10_told 129 = .ok (.ireturn, 1) := by decide +kernel
theorem dX10_told_130 : decode cX10_told 130 = .ok (.aload_n 0, 1) := by decide +kernel
theorem dX10_told_131 : decode cX10_told 131 = .ok (.getfield 54, 3) := by decide +kernel
theorem dX10_told_134 : decode cX10_told 134 = .ok (.getfield 145, 3) := by decide +kernel
theorem dX10_told_137 : decode cX10_told 137 = .ok (.ireturn, 1) := by decide +kernel
theorem dX10_told_138 : decode cX10_told 138 = .ok (.aload_n 0, 1) := by decide +kernel
theorem dX10_told_139 : decode cX10_told 139 = .ok (.getfield 54, 3) := by decide +kernel
theorem dX10_told_142 : decode cX10_told 142 = .ok (.getfield 198, 3) := by decide +kernel
theorem dX10_told_145 : decode cX10_told 145 = .ok (.ireturn, 1) := by decide +kernel
theorem dX10_told_146 : decode cX10_told 146 = .ok (.aload_n 0, 1) := by decide +kernel
theorem dX10_told_147 : decode cX10_told 147 = .ok (.getfield 38, 3) := by decide +kernel
theorem dX10_told_150 : decode cX10_told 150 = .ok (.getfield 110, 3) := by decide +kernel
theorem dX10_told_153 : decode cX10_told 153 = .ok (.ireturn, 1) := by decide +kernel
theorem dX10_document_0 : decode cX10_document 0 = .ok (.aload_n 0, 1) := by decide +kernel
theorem dX10_document_1 : decode cX10_document 1 = .ok (.iload_n 1, 1) := by decide +kernel
theorem dX10_document_2 : decode cX10_document 2 = .ok (.invokevirtual 156, 3) := by decide +kernel
theorem dX10_document_5 : decode cX10_document 5 = .ok (.aload_n 0, 1) := by decide +kernel
theorem dX10_document_6 : decode cX10_document 6 = .ok (.iload_n 2, 1) := by decide +kernel
theorem dX10_document_7 : decode cX10_document 7 = .ok (.iconst 0, 1) := by decide +kernel
theorem dX10_document_8 : decode cX10_document 8 = .ok (.iconst 4, 1) := by decide +kernel
theorem dX10_document_9 : decode cX10_document 9 = .ok (.invokevirtual 106, 3) := by decide +kernel
theorem dX10_document_12 : decode cX10_document 12 = .ok (.iload_n 2, 1) := by decide +kernel
theorem dX10_document_13 : decode cX10_document 13 = .ok (.tableswitch 76 0 3 #[31, 41, 50, 67], 31) := by decide +kernel
theorem dX10_document_44 : decode cX10_document 44 = .ok (.aload_n 0, 1) := by decide +kernel
theorem dX10_document_45 : decode cX10_document 45 = .ok (.getfield 38, 3) := by decide +kernel
theorem dX10_document_48 : decode cX10_document 48 = .ok (.getfield 201, 3) := by decide +kernel
theorem dX10_document_51 : decode cX10_document 51 = .ok (.iload_n 1, 1) := by decide +kernel
theorem dX10_document_52 : decode cX10_document 52 = .ok (.iaload, 1) := by decide +kernel
theorem dX10_document_53 : decode cX10_document 53 = .ok (.ireturn, 1) := by decide +kernel
theorem dX10_document_54 : decode cX10_document 54 = .ok (.aload_n 0, 1) := by decide +kernel
theorem dX10_document_55 : decode cX10_document 55 = .ok (.getfield 38, 3) := by decide +kernel
theorem dX10_document_58 : decode cX10_document 58 = .ok (.iload_n 1, 1) := by decide +kernel
theorem dX10_document_59 : decode cX10_document 59 = .ok (.invokevirtual 204, 3) := by decide +kernel
theorem dX10_document_62 : decode cX10_document 62 = .ok (.ireturn, 1) := by decide +kernel
theorem dX10_document_63 : decode cX10_document 63 = .ok (.aload_n 0, 1) := by decide +kernel
theorem dX10_document_64 : decode cX10_document 64 = .ok (.getfield 38, 3) := by decide +kernel
theorem dX10_document_67 : decode cX10_document 67 = .ok (.iload_n 1, 1) := by decide +kernel
theorem dX10_document_68 : decode cX10_document 68 = .ok (.invokevirtual 159, 3) := by decide +kernel
theorem dX10_document_71 : decode cX10_document 71 = .ok (.ifCond .eq 7, 3) := by decide +kernel
theorem dX10_document_74 : decode cX10_document 74 = .ok (.iconst 1, 1) := by decide +kernel
theorem dX10_document_75 : decode cX10_document 75 = .ok (.goto 4, 3) := by decide +kernel
theorem dX10_document_78 : decode cX10_document 78 = .ok (.iconst 0, 1) := by decide +kernel
theorem dX10_document_79 : decode cX10_document 79 = .ok (.ireturn, 1) := by decide +kernel
theorem dX10_document_80 : decode cX10_document 80 = .ok (.aload_n 0, 1) := by decide +kernel
theorem dX10_document_81 : decode cX10_document 81 = .ok (.getfield 38, 3) := by decide +kernel
theorem dX10_document_84 : decode cX10_document 84 = .ok (.iload_n 1, 1) := by decide +kernel
theorem dX10_document_85 : decode cX10_document 85 = .ok (.invokevirtual 207, 3) := by decide +kernel
theorem dX10_document_88 : decode cX10_document 88 = .ok (.ireturn, 1) := by decide +kernel
theorem dX10_document_89 : decode cX10_document 89 = .ok (.aload_n 0, 1) := by decide +kernel
theorem dX10_document_90 : decode cX10_document 90 = .ok (.getfield 38, 3) := by decide +kernel
theorem dX10_document_93 : decode cX10_document 93 = .ok (.getfield 210, 3) := by decide +kernel
theorem dX10_document_96 : decode cX10_document 96 = .ok (.aload_n 0, 1) := by decide +kernel
theorem dX10_document_97 : decode cX10_document 97 = .ok (.getfield 38, 3) := by decide +kernel
theorem dX10_document_100 : decode cX10_document 100 = .ok (.iload_n 1, 1) := by decide +kernel
theorem dX10_document_101 : decode cX10_document 101 = .ok (.invokevirtual 207, 3) := by decide +kernel
theorem dX10_document_104 : decode cX10_document 104 = .ok (.aaload, 1) := by decide +kernel
theorem dX10_document_105 : decode cX10_document 105 = .ok (.iload_n 1, 1) := by decide +kernel
theorem dX10_document_106 : decode cX10_document 106 = .ok (.iaload, 1) := by decide +kernel
theorem dX10_document_107 : decode cX10_document 107 = .ok (.ireturn, 1) := by decide +kernel
theorem dX10_at_0 : decode cX10_at 0 = .ok (.aload_n 0, 1) := by decide +kernel
theorem dX10_at_1 : decode cX10_at 1 = .ok (.iload_n 1, 1) := by decide +kernel
theorem dX10_at_2 : decode cX10_at 2 = .ok (.invokevirtual 156, 3) := by decide +kernel
theorem dX10_at_5 : decode cX10_at 5 = .ok (.iload_n 2, 1) := by decide +kernel
theorem dX10_at_6 : decode cX10_at 6 = .ok (.ifCond .lt 16, 3) := by decide +kernel
theorem dX10_at_9 : decode cX10_at 9 = .ok (.iload_n 2, 1) := by decide +kernel
theorem dX10_at_10 : decode cX10_at 10 = .ok (.aload_n 0, 1) := by decide +kernel
theorem dX10_at_11 : decode cX10_at 11 = .ok (.getfield 38, 3) := by decide +kernel
theorem dX10_at_14 : decode cX10_at 14 = .ok (.getfield 201, 3) := by decide +kernel
theorem dX10_at_17 : decode cX10_at 17 = .ok (.iload_n 1, 1) := by decide +kernel
theorem dX10_at_18 : decode cX10_at 18 = .ok (.iaload, 1) := by decide +kernel
theorem dX10_at_19 : decode cX10_at 19 = .ok (.if_icmp .lt 5, 3) := by decide +kernel
theorem dX10_at_22 : decode cX10_at 22 = .ok (.iconst (-1), 1) := by decide +kernel
theorem dX10_at_23 : decode cX10_at 23 = .ok (.ireturn, 1) := by decide +kernel
theorem dX10_at_24 : decode cX10_at 24 = .ok (.aload_n 0, 1) := by decide +kernel
theorem dX10_at_25 : decode cX10_at 25 = .ok (.getfield 38, 3) := by decide +kernel
theorem dX10_at_28 : decode cX10_at 28 = .ok (.getfield 214, 3) := by decide +kernel
theorem dX10_at_31 : decode cX10_at 31 = .ok (.iload_n 1, 1) := by decide +kernel
theorem dX10_at_32 : decode cX10_at 32 = .ok (.aaload, 1) := by decide +kernel
theorem dX10_at_33 : decode cX10_at 33 = .ok (.iload_n 2, 1) := by decide +kernel
theorem dX10_at_34 : decode cX10_at 34 = .ok (.iaload, 1) := by decide +kernel
theorem dX10_at_35 : decode cX10_at 35 = .ok (.ireturn, 1) := by decide +kernel
theorem dX10_word_0 : decode cX10_word 0 = .ok (.aload_n 0, 1) := by decide +kernel
theorem dX10_word_1 : decode cX10_word 1 = .ok (.iload_n 1, 1) := by decide +kernel
theorem dX10_word_2 : decode cX10_word 2 = .ok (.invokevirtual 217, 3) := by decide +kernel
theorem dX10_word_5 : decode cX10_word 5 = .ok (.aload_n 0, 1) := by decide +kernel
theorem dX10_word_6 : decode cX10_word 6 = .ok (.iload_n 2, 1) := by decide +kernel
theorem dX10_word_7 : decode cX10_word 7 = .ok (.iconst 0, 1) := by decide +kernel
theorem dX10_word_8 : decode cX10_word 8 = .ok (.bipush 6, 2) := by decide +kernel
theorem dX10_word_10 : decode cX10_word 10 = .ok (.invokevirtual 106, 3) := by decide +kernel
theorem dX10_word_13 : decode cX10_word 13 = .ok (.iload_n 2, 1) := by decide +kernel
theorem dX10_word_14 : decode cX10_word 14 = .ok (.tableswitch 107 0 5 #[38, 48, 57, 73, 82, 91], 38) := by decide +kernel
theorem dX10_word_52 : decode cX10_word 52 = .ok (.aload_n 0, 1) := by decide +kernel
theorem dX10_word_53 : decode cX10_word 53 = .ok (.getfield 38, 3) := by decide +kernel
theorem dX10_word_56 : decode cX10_word 56 = .ok (.getfield 220, 3) := by decide +kernel
theorem dX10_word_59 : decode cX10_word 59 = .ok (.iload_n 1, 1) := by decide +kernel
theorem dX10_word_60 : decode cX10_word 60 = .ok (.iaload, 1) := by decide +kernel
theorem dX10_word_61 : decode cX10_word 61 = .ok (.ireturn, 1) := by decide +kernel
theorem dX10_word_62 : decode cX10_word 62 = .ok (.aload_n 0, 1) := by decide +kernel
theorem dX10_word_63 : decode cX10_word 63 = .ok (.getfield 38, 3) := by decide +kernel
theorem dX10_word_66 : decode cX10_word 66 = .ok (.iload_n 1, 1) := by decide +kernel
theorem dX10_word_67 : decode cX10_word 67 = .ok (.invokevirtual 223, 3) := by decide +kernel
theorem dX10_word_70 : decode cX10_word 70 = .ok (.ireturn, 1) := by decide +kernel
theorem dX10_word_71 : decode cX10_word 71 = .ok (.aload_n 0, 1) := by decide +kernel
theorem dX10_word_72 : decode cX10_word 72 = .ok (.getfield 38, 3) := by decide +kernel
theorem dX10_word_75 : decode cX10_word 75 = .ok (.iload_n 1, 1) := by decide +kernel
theorem dX10_word_76 : decode cX10_word 76 = .ok (.aload_n 0, 1) := by decide +kernel
theorem dX10_word_77 : decode cX10_word 77 = .ok (.getfield 38, 3) := by decide +kernel
theorem dX10_word_80 : decode cX10_word 80 = .ok (.getfield 173, 3) := by decide +kernel
theorem dX10_word_83 : decode cX10_word 83 = .ok (.invokevirtual 226, 3) := by decide +kernel
theorem dX10_word_86 : decode cX10_word 86 = .ok (.ireturn, 1) := by decide +kernel
theorem dX10_word_87 : decode cX10_word 87 = .ok (.aload_n 0, 1) := by decide +kernel
theorem dX10_word_88 : decode cX10_word 88 = .ok (.getfield 38, 3) := by decide +kernel
theorem dX10_word_91 : decode cX10_word 91 = .ok (.iload_n 1, 1) := by decide +kernel
theorem dX10_word_92 : decode cX10_word 92 = .ok (.invokevirtual 229, 3) := by decide +kernel
theorem dX10_word_95 : decode cX10_word 95 = .ok (.ireturn, 1) := by decide +kernel
theorem dX10_word_96 : decode cX10_word 96 = .ok (.aload_n 0, 1) := by decide +kernel
theorem dX10_word_97 : decode cX10_word 97 = .ok (.getfield 38, 3) := by decide +kernel
theorem dX10_word_100 : decode cX10_word 100 = .ok (.iload_n 1, 1) := by decide +kernel
theorem dX10_word_101 : decode cX10_word 101 = .ok (.invokevirtual 232, 3) := by decide +kernel
theorem dX10_word_104 : decode cX10_word 104 = .ok (.ireturn, 1) := by decide +kernel
theorem dX10_word_105 : decode cX10_word 105 = .ok (.aload_n 0, 1) := by decide +kernel
theorem dX10_word_106 : decode cX10_word 106 = .ok (.getfield 47, 3) := by decide +kernel
theorem dX10_word_109 : decode cX10_word 109 = .ok (.iload_n 1, 1) := by decide +kernel
theorem dX10_word_110 : decode cX10_word 110 = .ok (.aload_n 0, 1) := by decide +kernel
theorem dX10_word_111 : decode cX10_word 111 = .ok (.getfield 38, 3) := by decide +kernel
theorem dX10_word_114 : decode cX10_word 114 = .ok (.getfield 173, 3) := by decide +kernel
theorem dX10_word_117 : decode cX10_word 117 = .ok (.invokevirtual 235, 3) := by decide +kernel
theorem dX10_word_120 : decode cX10_word 120 = .ok (.ireturn, 1) := by decide +kernel
theorem dX10_word_121 : decode cX10_word 121 = .ok (.aload_n 0, 1) := by decide +kernel
theorem dX10_word_122 : decode cX10_word 122 = .ok (.getfield 29, 3) := by decide +kernel
theorem dX10_word_125 : decode cX10_word 125 = .ok (.iload_n 1, 1) := by decide +kernel
theorem dX10_word_126 : decode cX10_word 126 = .ok (.invokevirtual 238, 3) := by decide +kernel
theorem dX10_word_129 : decode cX10_word 129 = .ok (.ireturn, 1) := by decide +kernel
theorem dX10_letter_0 : decode cX10_letter 0 = .ok (.aload_n 0, 1) := by decide +kernel
theorem dX10_letter_1 : decode cX10_letter 1 = .ok (.iload_n 1, 1) := by decide +kernel
theorem dX10_letter_2 : decode cX10_letter 2 = .ok (.invokevirtual 217, 3) := by decide +kernel
theorem dX10_letter_5 : decode cX10_letter 5 = .ok (.aload_n 0, 1) := by decide +kernel
theorem dX10_letter_6 : decode cX10_letter 6 = .ok (.getfield 29, 3) := by decide +kernel
theorem dX10_letter_9 : decode cX10_letter 9 = .ok (.iload_n 1, 1) := by decide +kernel
theorem dX10_letter_10 : decode cX10_letter 10 = .ok (.iload_n 2, 1) := by decide +kernel
theorem dX10_letter_11 : decode cX10_letter 11 = .ok (.invokevirtual 241, 3) := by decide +kernel
theorem dX10_letter_14 : decode cX10_letter 14 = .ok (.ireturn, 1) := by decide +kernel
theorem dX10_block_0 : decode cX10_block 0 = .ok (.aload_n 0, 1) := by decide +kernel
theorem dX10_block_1 : decode cX10_block 1 = .ok (.iload_n 1, 1) := by decide +kernel
theorem dX10_block_2 : decode cX10_block 2 = .ok (.iload_n 2, 1) := by decide +kernel
theorem dX10_block_3 : decode cX10_block 3 = .ok (.invokevirtual 244, 3) := by decide +kernel
theorem dX10_block_6 : decode cX10_block 6 = .ok (.aload_n 0, 1) := by decide +kernel
theorem dX10_block_7 : decode cX10_block 7 = .ok (.iload_n 3, 1) := by decide +kernel
theorem dX10_block_8 : decode cX10_block 8 = .ok (.iconst 0, 1) := by decide +kernel
theorem dX10_block_9 : decode cX10_block 9 = .ok (.bipush 7, 2) := by decide +kernel
theorem dX10_block_11 : decode cX10_block 11 = .ok (.invokevirtual 106, 3) := by decide +kernel
theorem dX10_block_14 : decode cX10_block 14 = .ok (.aload_n 0, 1) := by decide +kernel
theorem dX10_block_15 : decode cX10_block 15 = .ok (.getfield 47, 3) := by decide +kernel
theorem dX10_block_18 : decode cX10_block 18 = .ok (.iload_n 1, 1) := by decide +kernel
theorem dX10_block_19 : decode cX10_block 19 = .ok (.iload_n 2, 1) := by decide +kernel
theorem dX10_block_20 : decode cX10_block 20 = .ok (.aload_n 0, 1) := by decide +kernel
theorem dX10_block_21 : decode cX10_block 21 = .ok (.getfield 38, 3) := by decide +kernel
theorem dX10_block_24 : decode cX10_block 24 = .ok (.getfield 173, 3) := by decide +kernel
theorem dX10_block_27 : decode cX10_block 27 = .ok (.invokevirtual 248, 3) := by decide +kernel
theorem dX10_block_30 : decode cX10_block 30 = .ok (.iload_n 3, 1) := by decide +kernel
theorem dX10_block_31 : decode cX10_block 31 = .ok (.tableswitch 97 0 6 #[41, 49, 57, 65, 73, 81, 89], 41) := by decide +kernel
theorem dX10_block_72 : decode cX10_block 72 = .ok (.aload_n 0, 1) := by decide +kernel
theorem dX10_block_73 : decode cX10_block 73 = .ok (.getfield 47, 3) := by decide +kernel
theorem dX10_block_76 : decode cX10_block 76 = .ok (.getfield 251, 3) := by decide +kernel
theorem dX10_block_79 : decode cX10_block 79 = .ok (.ireturn, 1) := by decide +kernel
theorem dX10_block_80 : decode cX10_block 80 = .ok (.aload_n 0, 1) := by decide +kernel
theorem dX10_block_81 : decode cX10_block 81 = .ok (.getfield 47, 3) := by decide +kernel
theorem dX10_block_84 : decode cX10_block 84 = .ok (.getfield 254, 3) := by decide +kernel
theorem dX10_block_87 : decode cX10_block 87 = .ok (.ireturn, 1) := by decide +kernel
theorem dX10_block_88 : decode cX10_block 88 = .ok (.aload_n 0, 1) := by decide +kernel
theorem dX10_block_89 : decode cX10_block 89 = .ok (.getfield 47, 3) := by decide +kernel
theorem dX10_block_92 : decode cX10_block 92 = .ok (.getfield 257, 3) := by decide +kernel
theorem dX10_block_95 : decode cX10_block 95 = .ok (.ireturn, 1) := by decide +kernel
theorem dX10_block_96 : decode cX10_block 96 = .ok (.aload_n 0, 1) := by decide +kernel
theorem dX10_block_97 : decode cX10_block 97 = .ok (.getfield 47, 3) := by decide +kernel
theorem dX10_block_100 : decode cX10_block 100 = .ok (.getfield 259, 3) := by decide +kernel
theorem dX10_block_103 : decode cX10_block 103 = .ok (.ireturn, 1) := by decide +kernel
theorem dX10_block_104 : decode cX10_block 104 = .ok (.aload_n 0, 1) := by decide +kernel
theorem dX10_block_105 : decode cX10_block 105 = .ok (.getfield 47, 3) := by decide +kernel
theorem dX10_block_108 : decode cX10_block 108 = .ok (.getfield 262, 3) := by decide +kernel
theorem dX10_block_111 : decode cX10_block 111 = .ok (.ireturn, 1) := by decide +kernel
theorem dX10_block_112 : decode cX10_block 112 = .ok (.aload_n 0, 1) := by decide +kernel
theorem dX10_block_113 : decode cX10_block 113 = .ok (.getfield 47, 3) := by decide +kernel
theorem dX10_block_116 : decode cX10_block 116 = .ok (.getfield 265, 3) := by decide +kernel
theorem dX10_block_119 : decode cX10_block 119 = .ok (.ireturn, 1) := by decide +kernel
theorem dX10_block_120 : decode cX10_block 120 = .ok (.aload_n 0, 1) := by decide +kernel
theorem dX10_block_121 : decode cX10_block 121 = .ok (.getfield 47, 3) := by decide +kernel
theorem dX10_block_124 : decode cX10_block 124 = .ok (.getfield 268, 3) := by decide +kernel
theorem dX10_block_127 : decode cX10_block 127 = .ok (.ireturn, 1) := by decide +kernel
theorem dX10_block_128 : decode cX10_block 128 = .ok (.aload_n 0, 1) := by decide +kernel
theorem dX10_block_129 : decode cX10_block 129 = .ok (.getfield 47, 3) := by decide +kernel
theorem dX10_block_132 : decode cX10_block 132 = .ok (.getfield 271, 3) := by decide +kernel
theorem dX10_block_135 : decode cX10_block 135 = .ok (.ireturn, 1) := by decide +kernel
theorem dX10_posting_0 : decode cX10_posting 0 = .ok (.aload_n 0, 1) := by decide +kernel
theorem dX10_posting_1 : decode cX10_posting 1 = .ok (.iload_n 1, 1) := by decide +kernel
theorem dX10_posting_2 : decode cX10_posting 2 = .ok (.iload_n 2, 1) := by decide +kernel
theorem dX10_posting_3 : decode cX10_posting 3 = .ok (.invokevirtual 274, 3) := by decide +kernel
theorem dX10_posting_6 : decode cX10_posting 6 = .ok (.aload_n 0, 1) := by decide +kernel
theorem dX10_posting_7 : decode cX10_posting 7 = .ok (.iload_n 3, 1) := by decide +kernel
theorem dX10_posting_8 : decode cX10_posting 8 = .ok (.iconst 0, 1) := by decide +kernel
theorem dX10_posting_9 : decode cX10_posting 9 = .ok (.iconst 3, 1) := by decide +kernel
theorem dX10_posting_10 : decode cX10_posting 10 = .ok (.invokevirtual 106, 3) := by decide +kernel
theorem dX10_posting_13 : decode cX10_posting 13 = .ok (.aload_n 0, 1) := by decide +kernel
theorem dX10_posting_14 : decode cX10_posting 14 = .ok (.getfield 38, 3) := by decide +kernel
theorem dX10_posting_17 : decode cX10_posting 17 = .ok (.getfield 277, 3) := by decide +kernel
theorem dX10_posting_20 : decode cX10_posting 20 = .ok (.iload_n 1, 1) := by decide +kernel
theorem dX10_posting_21 : decode cX10_posting 21 = .ok (.aaload, 1) := by decide +kernel
theorem dX10_posting_22 : decode cX10_posting 22 = .ok (.iload_n 2, 1) := by decide +kernel
theorem dX10_posting_23 : decode cX10_posting 23 = .ok (.iaload, 1) := by decide +kernel
theorem dX10_posting_24 : decode cX10_posting 24 = .ok (.istore 4, 2) := by decide +kernel
theorem dX10_posting_26 : decode cX10_posting 26 = .ok (.iload_n 3, 1) := by decide +kernel
theorem dX10_posting_27 : decode cX10_posting 27 = .ok (.tableswitch 52 0 2 #[25, 28, 41], 25) := by decide +kernel
theorem dX10_posting_52 : decode cX10_posting 52 = .ok (.iload 4, 2) := by decide +kernel
theorem dX10_posting_54 : decode cX10_posting 54 = .ok (.ireturn, 1) := by decide +kernel
theorem dX10_posting_55 : decode cX10_posting 55 = .ok (.aload_n 0, 1) := by decide +kernel
theorem dX10_posting_56 : decode cX10_posting 56 = .ok (.getfield 38, 3) := by decide +kernel
theorem dX10_posting_59 : decode cX10_posting 59 = .ok (.getfield 210, 3) := by decide +kernel
theorem dX10_posting_62 : decode cX10_posting 62 = .ok (.iload_n 1, 1) := by decide +kernel
theorem dX10_posting_63 : decode cX10_posting 63 = .ok (.aaload, 1) := by decide +kernel
theorem dX10_posting_64 : decode cX10_posting 64 = .ok (.iload 4, 2) := by decide +kernel
theorem dX10_posting_66 : decode cX10_posting 66 = .ok (.iaload, 1) := by decide +kernel
theorem dX10_posting_67 : decode cX10_posting 67 = .ok (.ireturn, 1) := by decide +kernel
theorem dX10_posting_68 : decode cX10_posting 68 = .ok (.aload_n 0, 1) := by decide +kernel
theorem dX10_posting_69 : decode cX10_posting 69 = .ok (.getfield 38, 3) := by decide +kernel
theorem dX10_posting_72 : decode cX10_posting 72 = .ok (.iload_n 1, 1) := by decide +kernel
theorem dX10_posting_73 : decode cX10_posting 73 = .ok (.iload 4, 2) := by decide +kernel
theorem dX10_posting_75 : decode cX10_posting 75 = .ok (.invokevirtual 280, 3) := by decide +kernel
theorem dX10_posting_78 : decode cX10_posting 78 = .ok (.ireturn, 1) := by decide +kernel
theorem dX10_posting_79 : decode cX10_posting 79 = .ok (.aload_n 0, 1) := by decide +kernel
theorem dX10_posting_80 : decode cX10_posting 80 = .ok (.getfield 38, 3) := by decide +kernel
theorem dX10_posting_83 : decode cX10_posting 83 = .ok (.iload_n 2, 1) := by decide +kernel
theorem dX10_posting_84 : decode cX10_posting 84 = .ok (.invokevirtual 283, 3) := by decide +kernel
theorem dX10_posting_87 : decode cX10_posting 87 = .ok (.ireturn, 1) := by decide +kernel
theorem dX10_position_0 : decode cX10_position 0 = .ok (.aload_n 0, 1) := by decide +kernel
theorem dX10_position_1 : decode cX10_position 1 = .ok (.iload_n 1, 1) := by decide +kernel
theorem dX10_position_2 : decode cX10_position 2 = .ok (.iload_n 2, 1) := by decide +kernel
theorem dX10_position_3 : decode cX10_position 3 = .ok (.invokevirtual 274, 3) := by decide +kernel
theorem dX10_position_6 : decode cX10_position 6 = .ok (.aload_n 0, 1) := by decide +kernel
theorem dX10_position_7 : decode cX10_position 7 = .ok (.getfield 38, 3) := by decide +kernel
theorem dX10_position_10 : decode cX10_position 10 = .ok (.iload_n 1, 1) := by decide +kernel
theorem dX10_position_11 : decode cX10_position 11 = .ok (.aload_n 0, 1) := by decide +kernel
theorem dX10_position_12 : decode cX10_position 12 = .ok (.getfield 38, 3) := by decide +kernel
theorem dX10_position_15 : decode cX10_position 15 = .ok (.getfield 277, 3) := by decide +kernel
theorem dX10_position_18 : decode cX10_position 18 = .ok (.iload_n 1, 1) := by decide +kernel
theorem dX10_position_19 : decode cX10_position 19 = .ok (.aaload, 1) := by decide +kernel
theorem dX10_position_20 : decode cX10_position 20 = .ok (.iload_n 2, 1) := by decide +kernel
theorem dX10_position_21 : decode cX10_position 21 = .ok (.iaload, 1) := by decide +kernel
theorem dX10_position_22 : decode cX10_position 22 = .ok (.iload_n 3, 1) := by decide +kernel
theorem dX10_position_23 : decode cX10_position 23 = .ok (.invokevirtual 286, 3) := by decide +kernel
theorem dX10_position_26 : decode cX10_position 26 = .ok (.ireturn, 1) := by decide +kernel
theorem dX10_common_0 : decode cX10_common 0 = .ok (.iload_n 1, 1) := by decide +kernel
theorem dX10_common_1 : decode cX10_common 1 = .ok (.ifCond .lt 14, 3) := by decide +kernel
theorem dX10_common_4 : decode cX10_common 4 = .ok (.iload_n 1, 1) := by decide +kernel
theorem dX10_common_5 : decode cX10_common 5 = .ok (.aload_n 0, 1) := by decide +kernel
theorem dX10_common_6 : decode cX10_common 6 = .ok (.getfield 29, 3) := by decide +kernel
theorem dX10_common_9 : decode cX10_common 9 = .ok (.getfield 186, 3) := by decide +kernel
theorem dX10_common_12 : decode cX10_common 12 = .ok (.if_icmp .lt 7, 3) := by decide +kernel
theorem dX10_common_15 : decode cX10_common 15 = .ok (.aload_n 0, 1) := by decide +kernel
theorem dX10_common_16 : decode cX10_common 16 = .ok (.invokevirtual 163, 3) := by decide +kernel
theorem dX10_common_19 : decode cX10_common 19 = .ok (.aload_n 0, 1) := by decide +kernel
theorem dX10_common_20 : decode cX10_common 20 = .ok (.getfield 38, 3) := by decide +kernel
theorem dX10_common_23 : decode cX10_common 23 = .ok (.iload_n 1, 1) := by decide +kernel
theorem dX10_common_24 : decode cX10_common 24 = .ok (.invokevirtual 290, 3) := by decide +kernel
theorem dX10_common_27 : decode cX10_common 27 = .ok (.ireturn, 1) := by decide +kernel
theorem dX10_alike_0 : decode cX10_alike 0 = .ok (.aload_n 0, 1) := by decide +kernel
theorem dX10_alike_1 : decode cX10_alike 1 = .ok (.iload_n 1, 1) := by decide +kernel
theorem dX10_alike_2 : decode cX10_alike 2 = .ok (.invokevirtual 156, 3) := by decide +kernel
theorem dX10_alike_5 : decode cX10_alike 5 = .ok (.aload_n 0, 1) := by decide +kernel
theorem dX10_alike_6 : decode cX10_alike 6 = .ok (.iload_n 2, 1) := by decide +kernel
theorem dX10_alike_7 : decode cX10_alike 7 = .ok (.invokevirtual 156, 3) := by decide +kernel
theorem dX10_alike_10 : decode cX10_alike 10 = .ok (.aload_n 0, 1) := by decide +kernel
theorem dX10_alike_11 : decode cX10_alike 11 = .ok (.getfield 38, 3) := by decide +kernel
theorem dX10_alike_14 : decode cX10_alike 14 = .ok (.iload_n 1, 1) := by decide +kernel
theorem dX10_alike_15 : decode cX10_alike 15 = .ok (.iload_n 2, 1) := by decide +kernel
theorem dX10_alike_16 : decode cX10_alike 16 = .ok (.invokevirtual 293, 3) := by decide +kernel
theorem dX10_alike_19 : decode cX10_alike 19 = .ok (.ireturn, 1) := by decide +kernel
theorem dX10_scored_0 : decode cX10_scored 0 = .ok (.aload_n 0, 1) := by decide +kernel
theorem dX10_scored_1 : decode cX10_scored 1 = .ok (.iload_n 2, 1) := by decide +kernel
theorem dX10_scored_2 : decode cX10_scored 2 = .ok (.iconst 0, 1) := by decide +kernel
theorem dX10_scored_3 : decode cX10_scored 3 = .ok (.iconst 3, 1) := by decide +kernel
theorem dX10_scored_4 : decode cX10_scored 4 = .ok (.invokevirtual 106, 3) := by decide +kernel
theorem dX10_scored_7 : decode cX10_scored 7 = .ok (.aload_n 0, 1) := by decide +kernel
theorem dX10_scored_8 : decode cX10_scored 8 = .ok (.getfield 54, 3) := by decide +kernel
theorem dX10_scored_11 : decode cX10_scored 11 = .ok (.iload_n 1, 1) := by decide +kernel
theorem dX10_scored_12 : decode cX10_scored 12 = .ok (.invokevirtual 296, 3) := by decide +kernel
theorem dX10_scored_15 : decode cX10_scored 15 = .ok (.ifCond .ne 5, 3) := by decide +kernel
theorem dX10_scored_18 : decode cX10_scored 18 = .ok (.iconst (-1), 1) := by decide +kernel
theorem dX10_scored_19 : decode cX10_scored 19 = .ok (.ireturn, 1) := by decide +kernel
theorem dX10_scored_20 : decode cX10_scored 20 = .ok (.aload_n 0, 1) := by decide +kernel
theorem dX10_scored_21 : decode cX10_scored 21 = .ok (.getfield 54, 3) := by decide +kernel
theorem dX10_scored_24 : decode cX10_scored 24 = .ok (.getfield 299, 3) := by decide +kernel
theorem dX10_scored_27 : decode cX10_scored 27 = .ok (.iload_n 1, 1) := by decide +kernel
theorem dX10_scored_28 : decode cX10_scored 28 = .ok (.iaload, 1) := by decide +kernel
theorem dX10_scored_29 : decode cX10_scored 29 = .ok (.istore_n 3, 1) := by decide +kernel
theorem dX10_scored_30 : decode cX10_scored 30 = .ok (.iload_n 2, 1) := by decide +kernel
theorem dX10_scored_31 : decode cX10_scored 31 = .ok (.tableswitch 55 0 2 #[25, 27, 37], 25) := by decide +kernel
theorem dX10_scored_56 : decode cX10_scored 56 = .ok (.iload_n 3, 1) := by decide +kernel
theorem dX10_scored_57 : decode cX10_scored 57 = .ok (.ireturn, 1) := by decide +kernel
theorem dX10_scored_58 : decode cX10_scored 58 = .ok (.aload_n 0, 1) := by decide +kernel
theorem dX10_scored_59 : decode cX10_scored 59 = .ok (.getfield 54, 3) := by decide +kernel
theorem dX10_scored_62 : decode cX10_scored 62 = .ok (.getfield 302, 3) := by decide +kernel
theorem dX10_scored_65 : decode cX10_scored 65 = .ok (.iload_n 1, 1) := by decide +kernel
theorem dX10_scored_66 : decode cX10_scored 66 = .ok (.iaload, 1) := by decide +kernel
theorem dX10_scored_67 : decode cX10_scored 67 = .ok (.ireturn, 1) := by decide +kernel
theorem dX10_scored_68 : decode cX10_scored 68 = .ok (.aload_n 0, 1) := by decide +kernel
theorem dX10_scored_69 : decode cX10_scored 69 = .ok (.getfield 54, 3) := by decide +kernel
theorem dX10_scored_72 : decode cX10_scored 72 = .ok (.getfield 305, 3) := by decide +kernel
theorem dX10_scored_75 : decode cX10_scored 75 = .ok (.iload_n 1, 1) := by decide +kernel
theorem dX10_scored_76 : decode cX10_scored 76 = .ok (.baload, 1) := by decide +kernel
theorem dX10_scored_77 : decode cX10_scored 77 = .ok (.ifCond .eq 7, 3) := by decide +kernel
theorem dX10_scored_80 : decode cX10_scored 80 = .ok (.iconst 1, 1) := by decide +kernel
theorem dX10_scored_81 : decode cX10_scored 81 = .ok (.goto 4, 3) := by decide +kernel
theorem dX10_scored_84 : decode cX10_scored 84 = .ok (.iconst 0, 1) := by decide +kernel
theorem dX10_scored_85 : decode cX10_scored 85 = .ok (.ireturn, 1) := by decide +kernel
theorem dX10_scored_86 : decode cX10_scored 86 = .ok (.aload_n 0, 1) := by decide +kernel
theorem dX10_scored_87 : decode cX10_scored 87 = .ok (.getfield 54, 3) := by decide +kernel
theorem dX10_scored_90 : decode cX10_scored 90 = .ok (.getfield 302, 3) := by decide +kernel
theorem dX10_scored_93 : decode cX10_scored 93 = .ok (.iload_n 1, 1) := by decide +kernel
theorem dX10_scored_94 : decode cX10_scored 94 = .ok (.iaload, 1) := by decide +kernel
theorem dX10_scored_95 : decode cX10_scored 95 = .ok (.aload_n 0, 1) := by decide +kernel
theorem dX10_scored_96 : decode cX10_scored 96 = .ok (.getfield 38, 3) := by decide +kernel
theorem dX10_scored_99 : decode cX10_scored 99 = .ok (.iload_n 3, 1) := by decide +kernel
theorem dX10_scored_100 : decode cX10_scored 100 = .ok (.invokevirtual 232, 3) := by decide +kernel
theorem dX10_scored_103 : decode cX10_scored 103 = .ok (.imul, 1) := by decide +kernel
theorem dX10_scored_104 : decode cX10_scored 104 = .ok (.aload_n 0, 1) := by decide +kernel
theorem dX10_scored_105 : decode cX10_scored 105 = .ok (.getfield 38, 3) := by decide +kernel
theorem dX10_scored_108 : decode cX10_scored 108 = .ok (.iload_n 3, 1) := by decide +kernel
theorem dX10_scored_109 : decode cX10_scored 109 = .ok (.invokevirtual 229, 3) := by decide +kernel
theorem dX10_scored_112 : decode cX10_scored 112 = .ok (.imul, 1) := by decide +kernel
theorem dX10_scored_113 : decode cX10_scored 113 = .ok (.ireturn, 1) := by decide +kernel
theorem dX10_why_0 : decode cX10_why 0 = .ok (.aload_n 0, 1) := by decide +kernel
theorem dX10_why_1 : decode cX10_why 1 = .ok (.iload_n 1, 1) := by decide +kernel
theorem dX10_why_2 : decode cX10_why 2 = .ok (.invokevirtual 156, 3) := by decide +kernel
theorem dX10_why_5 : decode cX10_why 5 = .ok (.aload_n 0, 1) := by decide +kernel
theorem dX10_why_6 : decode cX10_why 6 = .ok (.getfield 77, 3) := by decide +kernel
theorem dX10_why_9 : decode cX10_why 9 = .ok (.iload_n 1, 1) := by decide +kernel
theorem dX10_why_10 : decode cX10_why 10 = .ok (.iconst (-1), 1) := by decide +kernel
theorem dX10_why_11 : decode cX10_why 11 = .ok (.invokevirtual 309, 3) := by decide +kernel
theorem dX10_why_14 : decode cX10_why 14 = .ok (.ireturn, 1) := by decide +kernel
theorem dX10_score_0 : decode cX10_score 0 = .ok (.aload_n 0, 1) := by decide +kernel
theorem dX10_score_1 : decode cX10_score 1 = .ok (.iload_n 1, 1) := by decide +kernel
theorem dX10_score_2 : decode cX10_score 2 = .ok (.invokevirtual 156, 3) := by decide +kernel
theorem dX10_score_5 : decode cX10_score 5 = .ok (.aload_n 0, 1) := by decide +kernel
theorem dX10_score_6 : decode cX10_score 6 = .ok (.getfield 77, 3) := by decide +kernel
theorem dX10_score_9 : decode cX10_score 9 = .ok (.iload_n 1, 1) := by decide +kernel
theorem dX10_score_10 : decode cX10_score 10 = .ok (.iconst (-1), 1) := by decide +kernel
theorem dX10_score_11 : decode cX10_score 11 = .ok (.invokevirtual 312, 3) := by decide +kernel
theorem dX10_score_14 : decode cX10_score 14 = .ok (.ireturn, 1) := by decide +kernel
theorem dX10_near_0 : decode cX10_near 0 = .ok (.aload_n 0, 1) := by decide +kernel
theorem dX10_near_1 : decode cX10_near 1 = .ok (.iload_n 1, 1) := by decide +kernel
theorem dX10_near_2 : decode cX10_near 2 = .ok (.invokevirtual 156, 3) := by decide +kernel
theorem dX10_near_5 : decode cX10_near 5 = .ok (.aload_n 0, 1) := by decide +kernel
theorem dX10_near_6 : decode cX10_near 6 = .ok (.getfield 77, 3) := by decide +kernel
theorem dX10_near_9 : decode cX10_near 9 = .ok (.iload_n 1, 1) := by decide +kernel
theorem dX10_near_10 : decode cX10_near 10 = .ok (.iconst (-1), 1) := by decide +kernel
theorem dX10_near_11 : decode cX10_near 11 = .ok (.invokevirtual 315, 3) := by decide +kernel
theorem dX10_near_14 : decode cX10_near 14 = .ok (.ireturn, 1) := by decide +kernel
theorem dX10_window_0 : decode cX10_window 0 = .ok (.aload_n 0, 1) := by decide +kernel
theorem dX10_window_1 : decode cX10_window 1 = .ok (.iload_n 1, 1) := by decide +kernel
theorem dX10_window_2 : decode cX10_window 2 = .ok (.invokevirtual 156, 3) := by decide +kernel
theorem dX10_window_5 : decode cX10_window 5 = .ok (.aload_n 0, 1) := by decide +kernel
theorem dX10_window_6 : decode cX10_window 6 = .ok (.iload_n 2, 1) := by decide +kernel
theorem dX10_window_7 : decode cX10_window 7 = .ok (.iconst 0, 1) := by decide +kernel
theorem dX10_window_8 : decode cX10_window 8 = .ok (.iconst 1, 1) := by decide +kernel
theorem dX10_window_9 : decode cX10_window 9 = .ok (.invokevirtual 106, 3) := by decide +kernel
theorem dX10_window_12 : decode cX10_window 12 = .ok (.aload_n 0, 1) := by decide +kernel
theorem dX10_window_13 : decode cX10_window 13 = .ok (.getfield 77, 3) := by decide +kernel
theorem dX10_window_16 : decode cX10_window 16 = .ok (.iload_n 1, 1) := by decide +kernel
theorem dX10_window_17 : decode cX10_window 17 = .ok (.invokevirtual 318, 3) := by decide +kernel
theorem dX10_window_20 : decode cX10_window 20 = .ok (.iload_n 2, 1) := by decide +kernel
theorem dX10_window_21 : decode cX10_window 21 = .ok (.ifCond .ne 13, 3) := by decide +kernel
theorem dX10_window_24 : decode cX10_window 24 = .ok (.aload_n 0, 1) := by decide +kernel
theorem dX10_window_25 : decode cX10_window 25 = .ok (.getfield 77, 3) := by decide +kernel
theorem dX10_window_28 : decode cX10_window 28 = .ok (.getfield 321, 3) := by decide +kernel
theorem dX10_window_31 : decode cX10_window 31 = .ok (.goto 10, 3) := by decide +kernel
theorem dX10_window_34 : decode cX10_window 34 = .ok (.aload_n 0, 1) := by decide +kernel
theorem dX10_window_35 : decode cX10_window 35 = .ok (.getfield 77, 3) := by decide +kernel
theorem dX10_window_38 : decode cX10_window 38 = .ok (.getfield 324, 3) := by decide +kernel
theorem dX10_window_41 : decode cX10_window 41 = .ok (.ireturn, 1) := by decide +kernel
theorem dX10_answers_0 : decode cX10_answers 0 = .ok (.aload_n 0, 1) := by decide +kernel
theorem dX10_answers_1 : decode cX10_answers 1 = .ok (.getfield 86, 3) := by decide +kernel
theorem dX10_answers_4 : decode cX10_answers 4 = .ok (.iconst (-1), 1) := by decide +kernel
theorem dX10_answers_5 : decode cX10_answers 5 = .ok (.invokevirtual 327, 3) := by decide +kernel
theorem dX10_answers_8 : decode cX10_answers 8 = .ok (.aload_n 0, 1) := by decide +kernel
theorem dX10_answers_9 : decode cX10_answers 9 = .ok (.getfield 86, 3) := by decide +kernel
theorem dX10_answers_12 : decode cX10_answers 12 = .ok (.getfield 330, 3) := by decide +kernel
theorem dX10_answers_15 : decode cX10_answers 15 = .ok (.ireturn, 1) := by decide +kernel
theorem dX10_answer_0 : decode cX10_answer 0 = .ok (.aload_n 0, 1) := by decide +kernel
theorem dX10_answer_1 : decode cX10_answer 1 = .ok (.getfield 86, 3) := by decide +kernel
theorem dX10_answer_4 : decode cX10_answer 4 = .ok (.iconst (-1), 1) := by decide +kernel
theorem dX10_answer_5 : decode cX10_answer 5 = .ok (.invokevirtual 327, 3) := by decide +kernel
theorem dX10_answer_8 : decode cX10_answer 8 = .ok (.iload_n 1, 1) := by decide +kernel
theorem dX10_answer_9 : decode cX10_answer 9 = .ok (.ifCond .lt 14, 3) := by decide +kernel
theorem dX10_answer_12 : decode cX10_answer 12 = .ok (.iload_n 1, 1) := by decide +kernel
theorem dX10_answer_13 : decode cX10_answer 13 = .ok (.aload_n 0, 1) := by decide +kernel
theorem dX10_answer_14 : decode cX10_answer 14 = .ok (.getfield 86, 3) := by decide +kernel
theorem dX10_answer_17 : decode cX10_answer 17 = .ok (.getfield 330, 3) := by decide +kernel
theorem dX10_answer_20 : decode cX10_answer 20 = .ok (.if_icmp .lt 7, 3) := by decide +kernel
theorem dX10_answer_23 : decode cX10_answer 23 = .ok (.aload_n 0, 1) := by decide +kernel
theorem dX10_answer_24 : decode cX10_answer 24 = .ok (.invokevirtual 163, 3) := by decide +kernel
theorem dX10_answer_27 : decode cX10_answer 27 = .ok (.aload_n 0, 1) := by decide +kernel
theorem dX10_answer_28 : decode cX10_answer 28 = .ok (.iload_n 2, 1) := by decide +kernel
theorem dX10_answer_29 : decode cX10_answer 29 = .ok (.iconst 0, 1) := by decide +kernel
theorem dX10_answer_30 : decode cX10_answer 30 = .ok (.iconst 1, 1) := by decide +kernel
theorem dX10_answer_31 : decode cX10_answer 31 = .ok (.invokevirtual 106, 3) := by decide +kernel
theorem dX10_answer_34 : decode cX10_answer 34 = .ok (.iload_n 2, 1) := by decide +kernel
theorem dX10_answer_35 : decode cX10_answer 35 = .ok (.ifCond .ne 15, 3) := by decide +kernel
theorem dX10_answer_38 : decode cX10_answer 38 = .ok (.aload_n 0, 1) := by decide +kernel
theorem dX10_answer_39 : decode cX10_answer 39 = .ok (.getfield 86, 3) := by decide +kernel
theorem dX10_answer_42 : decode cX10_answer 42 = .ok (.getfield 333, 3) := by decide +kernel
theorem dX10_answer_45 : decode cX10_answer 45 = .ok (.iload_n 1, 1) := by decide +kernel
theorem dX10_answer_46 : decode cX10_answer 46 = .ok (.iaload, 1) := by decide +kernel
theorem dX10_answer_47 : decode cX10_answer 47 = .ok (.goto 12, 3) := by decide +kernel
theorem dX10_answer_50 : decode cX10_answer 50 = .ok (.aload_n 0, 1) := by decide +kernel
theorem dX10_answer_51 : decode cX10_answer 51 = .ok (.getfield 86, 3) := by decide +kernel
theorem dX10_answer_54 : decode cX10_answer 54 = .ok (.getfield 336, 3) := by decide +kernel
theorem dX10_answer_57 : decode cX10_answer 57 = .ok (.iload_n 1, 1) := by decide +kernel
theorem dX10_answer_58 : decode cX10_answer 58 = .ok (.iaload, 1) := by decide +kernel
theorem dX10_answer_59 : decode cX10_answer 59 = .ok (.ireturn, 1) := by decide +kernel
theorem dX10_place_0 : decode cX10_place 0 = .ok (.aload_n 0, 1) := by decide +kernel
theorem dX10_place_1 : decode cX10_place 1 = .ok (.iload_n 1, 1) := by decide +kernel
theorem dX10_place_2 : decode cX10_place 2 = .ok (.invokevirtual 156, 3) := by decide +kernel
theorem dX10_place_5 : decode cX10_place 5 = .ok (.aload_n 0, 1) := by decide +kernel
theorem dX10_place_6 : decode cX10_place 6 = .ok (.getfield 86, 3) := by decide +kernel
theorem dX10_place_9 : decode cX10_place 9 = .ok (.iconst (-1), 1) := by decide +kernel
theorem dX10_place_10 : decode cX10_place 10 = .ok (.invokevirtual 327, 3) := by decide +kernel
theorem dX10_place_13 : decode cX10_place 13 = .ok (.aload_n 0, 1) := by decide +kernel
theorem dX10_place_14 : decode cX10_place 14 = .ok (.getfield 86, 3) := by decide +kernel
theorem dX10_place_17 : decode cX10_place 17 = .ok (.iload_n 1, 1) := by decide +kernel
theorem dX10_place_18 : decode cX10_place 18 = .ok (.invokevirtual 339, 3) := by decide +kernel
theorem dX10_place_21 : decode cX10_place 21 = .ok (.ireturn, 1) := by decide +kernel
theorem dX10_early_0 : decode cX10_early 0 = .ok (.aload_n 0, 1) := by decide +kernel
theorem dX10_early_1 : decode cX10_early 1 = .ok (.iload_n 1, 1) := by decide +kernel
theorem dX10_early_2 : decode cX10_early 2 = .ok (.iconst 1, 1) := by decide +kernel
theorem dX10_early_3 : decode cX10_early 3 = .ok (.bipush 10, 2) := by decide +kernel
theorem dX10_early_5 : decode cX10_early 5 = .ok (.invokevirtual 106, 3) := by decide +kernel
theorem dX10_early_8 : decode cX10_early 8 = .ok (.aload_n 0, 1) := by decide +kernel
theorem dX10_early_9 : decode cX10_early 9 = .ok (.iload_n 2, 1) := by decide +kernel
theorem dX10_early_10 : decode cX10_early 10 = .ok (.iconst 0, 1) := by decide +kernel
theorem dX10_early_11 : decode cX10_early 11 = .ok (.bipush 8, 2) := by decide +kernel
theorem dX10_early_13 : decode cX10_early 13 = .ok (.invokevirtual 106, 3) := by decide +kernel
theorem dX10_early_16 : decode cX10_early 16 = .ok (.aload_n 0, 1) := by decide +kernel
theorem dX10_early_17 : decode cX10_early 17 = .ok (.getfield 98, 3) := by decide +kernel
theorem dX10_early_20 : decode cX10_early 20 = .ok (.iload_n 1, 1) := by decide +kernel
theorem dX10_early_21 : decode cX10_early 21 = .ok (.aload_n 0, 1) := by decide +kernel
theorem dX10_early_22 : decode cX10_early 22 = .ok (.getfield 38, 3) := by decide +kernel
theorem dX10_early_25 : decode cX10_early 25 = .ok (.getfield 173, 3) := by decide +kernel
theorem dX10_early_28 : decode cX10_early 28 = .ok (.invokevirtual 342, 3) := by decide +kernel
theorem dX10_early_31 : decode cX10_early 31 = .ok (.iload_n 2, 1) := by decide +kernel
theorem dX10_early_32 : decode cX10_early 32 = .ok (.tableswitch 112 0 7 #[48, 56, 64, 72, 80, 88, 96, 104], 48) := by decide +kernel
theorem dX10_early_80 : decode cX10_early 80 = .ok (.aload_n 0, 1) := by decide +kernel
theorem dX10_early_81 : decode cX10_early 81 = .ok (.getfield 98, 3) := by decide +kernel
theorem dX10_early_84 : decode cX10_early 84 = .ok (.getfield 345, 3) := by decide +kernel
theorem dX10_early_87 : decode cX10_early 87 = .ok (.ireturn, 1) := by decide +kernel
theorem dX10_early_88 : decode cX10_early 88 = .ok (.aload_n 0, 1) := by decide +kernel
theorem dX10_early_89 : decode cX10_early 89 = .ok (.getfield 98, 3) := by decide +kernel
theorem dX10_early_92 : decode cX10_early 92 = .ok (.invokevirtual 348, 3) := by decide +kernel
theorem dX10_early_95 : decode cX10_early 95 = .ok (.ireturn, 1) := by decide +kernel
theorem dX10_early_96 : decode cX10_early 96 = .ok (.aload_n 0, 1) := by decide +kernel
theorem dX10_early_97 : decode cX10_early 97 = .ok (.getfield 98, 3) := by decide +kernel
theorem dX10_early_100 : decode cX10_early 100 = .ok (.getfield 351, 3) := by decide +kernel
theorem dX10_early_103 : decode cX10_early 103 = .ok (.ireturn, 1) := by decide +kernel
theorem dX10_early_104 : decode cX10_early 104 = .ok (.aload_n 0, 1) := by decide +kernel
theorem dX10_early_105 : decode cX10_early 105 = .ok (.getfield 98, 3) := by decide +kernel
theorem dX10_early_108 : decode cX10_early 108 = .ok (.invokevirtual 354, 3) := by decide +kernel
theorem dX10_early_111 : decode cX10_early 111 = .ok (.ireturn, 1) := by decide +kernel
theorem dX10_early_112 : decode cX10_early 112 = .ok (.aload_n 0, 1) := by decide +kernel
theorem dX10_early_113 : decode cX10_early 113 = .ok (.getfield 98, 3) := by decide +kernel
theorem dX10_early_116 : decode cX10_early 116 = .ok (.invokevirtual 357, 3) := by decide +kernel
theorem dX10_early_119 : decode cX10_early 119 = .ok (.ireturn, 1) := by decide +kernel
theorem dX10_early_120 : decode cX10_early 120 = .ok (.aload_n 0, 1) := by decide +kernel
theorem dX10_early_121 : decode cX10_early 121 = .ok (.getfield 98, 3) := by decide +kernel
theorem dX10_early_124 : decode cX10_early 124 = .ok (.getfield 360, 3) := by decide +kernel
theorem dX10_early_127 : decode cX10_early 127 = .ok (.ireturn, 1) := by decide +kernel
theorem dX10_early_128 : decode cX10_early 128 = .ok (.aload_n 0, 1) := by decide +kernel
theorem dX10_early_129 : decode cX10_early 129 = .ok (.getfield 98, 3) := by decide +kernel
theorem dX10_early_132 : decode cX10_early 132 = .ok (.getfield 363, 3) := by decide +kernel
theorem dX10_early_135 : decode cX10_early 135 = .ok (.ireturn, 1) := by decide +kernel
theorem dX10_early_136 : decode cX10_early 136 = .ok (.aload_n 0, 1) := by decide +kernel
theorem dX10_early_137 : decode cX10_early 137 = .ok (.getfield 98, 3) := by decide +kernel
theorem dX10_early_140 : decode cX10_early 140 = .ok (.getfield 366, 3) := by decide +kernel
theorem dX10_early_143 : decode cX10_early 143 = .ok (.ireturn, 1) := by decide +kernel
theorem dX10_early_144 : decode cX10_early 144 = .ok (.aload_n 0, 1) := by decide +kernel
theorem dX10_early_145 : decode cX10_early 145 = .ok (.getfield 98, 3) := by decide +kernel
theorem dX10_early_148 : decode cX10_early 148 = .ok (.invokevirtual 369, 3) := by decide +kernel
theorem dX10_early_151 : decode cX10_early 151 = .ok (.ireturn, 1) := by decide +kernel
theorem dX10_best_0 : decode cX10_best 0 = .ok (.aload_n 0, 1) := by decide +kernel
theorem dX10_best_1 : decode cX10_best 1 = .ok (.iload_n 1, 1) := by decide +kernel
theorem dX10_best_2 : decode cX10_best 2 = .ok (.iconst 1, 1) := by decide +kernel
theorem dX10_best_3 : decode cX10_best 3 = .ok (.bipush 10, 2) := by decide +kernel
theorem dX10_best_5 : decode cX10_best 5 = .ok (.invokevirtual 106, 3) := by decide +kernel
theorem dX10_best_8 : decode cX10_best 8 = .ok (.aload_n 0, 1) := by decide +kernel
theorem dX10_best_9 : decode cX10_best 9 = .ok (.getfield 98, 3) := by decide +kernel
theorem dX10_best_12 : decode cX10_best 12 = .ok (.iload_n 1, 1) := by decide +kernel
theorem dX10_best_13 : decode cX10_best 13 = .ok (.aload_n 0, 1) := by decide +kernel
theorem dX10_best_14 : decode cX10_best 14 = .ok (.getfield 38, 3) := by decide +kernel
theorem dX10_best_17 : decode cX10_best 17 = .ok (.getfield 173, 3) := by decide +kernel
theorem dX10_best_20 : decode cX10_best 20 = .ok (.invokevirtual 342, 3) := by decide +kernel
theorem dX10_best_23 : decode cX10_best 23 = .ok (.iload_n 2, 1) := by decide +kernel
theorem dX10_best_24 : decode cX10_best 24 = .ok (.ifCond .lt 14, 3) := by decide +kernel
theorem dX10_best_27 : decode cX10_best 27 = .ok (.iload_n 2, 1) := by decide +kernel
theorem dX10_best_28 : decode cX10_best 28 = .ok (.aload_n 0, 1) := by decide +kernel
theorem dX10_best_29 : decode cX10_best 29 = .ok (.getfield 98, 3) := by decide +kernel
theorem dX10_best_32 : decode cX10_best 32 = .ok (.getfield 345, 3) := by decide +kernel
theorem dX10_best_35 : decode cX10_best 35 = .ok (.if_icmp .lt 5, 3) := by decide +kernel
theorem dX10_best_38 : decode cX10_best 38 = .ok (.iconst (-1), 1) := by decide +kernel
theorem dX10_best_39 : decode cX10_best 39 = .ok (.ireturn, 1) := by decide +kernel
theorem dX10_best_40 : decode cX10_best 40 = .ok (.aload_n 0, 1) := by decide +kernel
theorem dX10_best_41 : decode cX10_best 41 = .ok (.getfield 98, 3) := by decide +kernel
theorem dX10_best_44 : decode cX10_best 44 = .ok (.getfield 372, 3) := by decide +kernel
theorem dX10_best_47 : decode cX10_best 47 = .ok (.iload_n 2, 1) := by decide +kernel
theorem dX10_best_48 : decode cX10_best 48 = .ok (.iaload, 1) := by decide +kernel
theorem dX10_best_49 : decode cX10_best 49 = .ok (.ireturn, 1) := by decide +kernel
theorem dX10_opened_0 : decode cX10_opened 0 = .ok (.aload_n 0, 1) := by decide +kernel
theorem dX10_opened_1 : decode cX10_opened 1 = .ok (.iload_n 2, 1) := by decide +kernel
theorem dX10_opened_2 : decode cX10_opened 2 = .ok (.iload_n 3, 1) := by decide +kernel
theorem dX10_opened_3 : decode cX10_opened 3 = .ok (.invokevirtual 375, 3) := by decide +kernel
theorem dX10_opened_6 : decode cX10_opened 6 = .ok (.aload_n 0, 1) := by decide +kernel
theorem dX10_opened_7 : decode cX10_opened 7 = .ok (.iload_n 1, 1) := by decide +kernel
theorem dX10_opened_8 : decode cX10_opened 8 = .ok (.iconst 1, 1) := by decide +kernel
theorem dX10_opened_9 : decode cX10_opened 9 = .ok (.bipush 10, 2) := by decide +kernel
theorem dX10_opened_11 : decode cX10_opened 11 = .ok (.invokevirtual 106, 3) := by decide +kernel
theorem dX10_opened_14 : decode cX10_opened 14 = .ok (.aload_n 0, 1) := by decide +kernel
theorem dX10_opened_15 : decode cX10_opened 15 = .ok (.getfield 98, 3) := by decide +kernel
theorem dX10_opened_18 : decode cX10_opened 18 = .ok (.iload_n 1, 1) := by decide +kernel
theorem dX10_opened_19 : decode cX10_opened 19 = .ok (.aload_n 0, 1) := by decide +kernel
theorem dX10_opened_20 : decode cX10_opened 20 = .ok (.getfield 38, 3) := by decide +kernel
theorem dX10_opened_23 : decode cX10_opened 23 = .ok (.getfield 173, 3) := by decide +kernel
theorem dX10_opened_26 : decode cX10_opened 26 = .ok (.invokevirtual 342, 3) := by decide +kernel
theorem dX10_opened_29 : decode cX10_opened 29 = .ok (.aload_n 0, 1) := by decide +kernel
theorem dX10_opened_30 : decode cX10_opened 30 = .ok (.getfield 98, 3) := by decide +kernel
theorem dX10_opened_33 : decode cX10_opened 33 = .ok (.getfield 378, 3) := by decide +kernel
theorem dX10_opened_36 : decode cX10_opened 36 = .ok (.iload_n 2, 1) := by decide +kernel
theorem dX10_opened_37 : decode cX10_opened 37 = .ok (.aaload, 1) := by decide +kernel
theorem dX10_opened_38 : decode cX10_opened 38 = .ok (.getfield 382, 3) := by decide +kernel
theorem dX10_opened_41 : decode cX10_opened 41 = .ok (.iload_n 3, 1) := by decide +kernel
theorem dX10_opened_42 : decode cX10_opened 42 = .ok (.iaload, 1) := by decide +kernel
theorem dX10_opened_43 : decode cX10_opened 43 = .ok (.ireturn, 1) := by decide +kernel
theorem dX10_inside_0 : decode cX10_inside 0 = .ok (.aload_n 0, 1) := by decide +kernel
theorem dX10_inside_1 : decode cX10_inside 1 = .ok (.iload_n 1, 1) := by decide +kernel
theorem dX10_inside_2 : decode cX10_inside 2 = .ok (.iload_n 2, 1) := by decide +kernel
theorem dX10_inside_3 : decode cX10_inside 3 = .ok (.invokevirtual 244, 3) := by decide +kernel
theorem dX10_inside_6 : decode cX10_inside 6 = .ok (.iload_n 2, 1) := by decide +kernel
theorem dX10_inside_7 : decode cX10_inside 7 = .ok (.aload_n 0, 1) := by decide +kernel
theorem dX10_inside_8 : decode cX10_inside 8 = .ok (.getfield 38, 3) := by decide +kernel
theorem dX10_inside_11 : decode cX10_inside 11 = .ok (.getfield 173, 3) := by decide +kernel
theorem dX10_inside_14 : decode cX10_inside 14 = .ok (.imul, 1) := by decide +kernel
theorem dX10_inside_15 : decode cX10_inside 15 = .ok (.istore_n 3, 1) := by decide +kernel
theorem dX10_inside_16 : decode cX10_inside 16 = .ok (.iload_n 3, 1) := by decide +kernel
theorem dX10_inside_17 : decode cX10_inside 17 = .ok (.aload_n 0, 1) := by decide +kernel
theorem dX10_inside_18 : decode cX10_inside 18 = .ok (.getfield 38, 3) := by decide +kernel
theorem dX10_inside_21 : decode cX10_inside 21 = .ok (.getfield 173, 3) := by decide +kernel
theorem dX10_inside_24 : decode cX10_inside 24 = .ok (.iadd, 1) := by decide +kernel
theorem dX10_inside_25 : decode cX10_inside 25 = .ok (.aload_n 0, 1) := by decide +kernel
theorem dX10_inside_26 : decode cX10_inside 26 = .ok (.getfield 38, 3) := by decide +kernel
theorem dX10_inside_29 : decode cX10_inside 29 = .ok (.getfield 220, 3) := by decide +kernel
theorem dX10_inside_32 : decode cX10_inside 32 = .ok (.iload_n 1, 1) := by decide +kernel
theorem dX10_inside_33 : decode cX10_inside 33 = .ok (.iaload, 1) := by decide +kernel
theorem dX10_inside_34 : decode cX10_inside 34 = .ok (.invokestatic 130, 3) := by decide +kernel
theorem dX10_inside_37 : decode cX10_inside 37 = .ok (.istore 4, 2) := by decide +kernel
theorem dX10_inside_39 : decode cX10_inside 39 = .ok (.iconst 0, 1) := by decide +kernel
theorem dX10_inside_40 : decode cX10_inside 40 = .ok (.istore 5, 2) := by decide +kernel
theorem dX10_inside_42 : decode cX10_inside 42 = .ok (.iload_n 3, 1) := by decide +kernel
theorem dX10_inside_43 : decode cX10_inside 43 = .ok (.istore 6, 2) := by decide +kernel
theorem dX10_inside_45 : decode cX10_inside 45 = .ok (.iload 6, 2) := by decide +kernel
theorem dX10_inside_47 : decode cX10_inside 47 = .ok (.iload 4, 2) := by decide +kernel
theorem dX10_inside_49 : decode cX10_inside 49 = .ok (.if_icmp .ge 53, 3) := by decide +kernel
theorem dX10_inside_52 : decode cX10_inside 52 = .ok (.aload_n 0, 1) := by decide +kernel
theorem dX10_inside_53 : decode cX10_inside 53 = .ok (.getfield 38, 3) := by decide +kernel
theorem dX10_inside_56 : decode cX10_inside 56 = .ok (.getfield 277, 3) := by decide +kernel
theorem dX10_inside_59 : decode cX10_inside 59 = .ok (.iload_n 1, 1) := by decide +kernel
theorem dX10_inside_60 : decode cX10_inside 60 = .ok (.aaload, 1) := by decide +kernel
theorem dX10_inside_61 : decode cX10_inside 61 = .ok (.iload 6, 2) := by decide +kernel
theorem dX10_inside_63 : decode cX10_inside 63 = .ok (.iaload, 1) := by decide +kernel
theorem dX10_inside_64 : decode cX10_inside 64 = .ok (.istore 7, 2) := by decide +kernel
theorem dX10_inside_66 : decode cX10_inside 66 = .ok (.aload_n 0, 1) := by decide +kernel
theorem dX10_inside_67 : decode cX10_inside 67 = .ok (.getfield 77, 3) := by decide +kernel
theorem dX10_inside_70 : decode cX10_inside 70 = .ok (.iload 7, 2) := by decide +kernel
theorem dX10_inside_72 : decode cX10_inside 72 = .ok (.iconst (-1), 1) := by decide +kernel
theorem dX10_inside_73 : decode cX10_inside 73 = .ok (.invokevirtual 309, 3) := by decide +kernel
theorem dX10_inside_76 : decode cX10_inside 76 = .ok (.ifCond .ne 20, 3) := by decide +kernel
theorem dX10_inside_79 : decode cX10_inside 79 = .ok (.iload 5, 2) := by decide +kernel
theorem dX10_inside_81 : decode cX10_inside 81 = .ok (.aload_n 0, 1) := by decide +kernel
theorem dX10_inside_82 : decode cX10_inside 82 = .ok (.getfield 77, 3) := by decide +kernel
theorem dX10_inside_85 : decode cX10_inside 85 = .ok (.iload 7, 2) := by decide +kernel
theorem dX10_inside_87 : decode cX10_inside 87 = .ok (.iconst (-1), 1) := by decide +kernel
theorem dX10_inside_88 : decode cX10_inside 88 = .ok (.invokevirtual 312, 3) := by decide +kernel
theorem dX10_inside_91 : decode cX10_inside 91 = .ok (.invokestatic 387, 3) := by decide +kernel
theorem dX10_inside_94 : decode cX10_inside 94 = .ok (.istore 5, 2) := by decide +kernel
theorem dX10_inside_96 : decode cX10_inside 96 = .ok (.iinc 6 1, 3) := by decide +kernel
theorem dX10_inside_99 : decode cX10_inside 99 = .ok (.goto (-54), 3) := by decide +kernel
theorem dX10_inside_102 : decode cX10_inside 102 = .ok (.iload 5, 2) := by decide +kernel
theorem dX10_inside_104 : decode cX10_inside 104 = .ok (.ireturn, 1) := by decide +kernel
theorem dX10_bits_0 : decode cX10_bits 0 = .ok (.aload_n 0, 1) := by decide +kernel
theorem dX10_bits_1 : decode cX10_bits 1 = .ok (.iload_n 1, 1) := by decide +kernel
theorem dX10_bits_2 : decode cX10_bits 2 = .ok (.invokevirtual 170, 3) := by decide +kernel
theorem dX10_bits_5 : decode cX10_bits 5 = .ok (.aload_n 0, 1) := by decide +kernel
theorem dX10_bits_6 : decode cX10_bits 6 = .ok (.getfield 47, 3) := by decide +kernel
theorem dX10_bits_9 : decode cX10_bits 9 = .ok (.iload_n 1, 1) := by decide +kernel
theorem dX10_bits_10 : decode cX10_bits 10 = .ok (.invokevirtual 195, 3) := by decide +kernel
theorem dX10_bits_13 : decode cX10_bits 13 = .ok (.ireturn, 1) := by decide +kernel
theorem dX10_thrift_0 : decode cX10_thrift 0 = .ok (.iconst 2, 1) := by decide +kernel
theorem dX10_thrift_1 : decode cX10_thrift 1 = .ok (.istore_n 1, 1) := by decide +kernel
theorem dX10_thrift_2 : decode cX10_thrift 2 = .ok (.aload_n 0, 1) := by decide +kernel
theorem dX10_thrift_3 : decode cX10_thrift 3 = .ok (.getfield 47, 3) := by decide +kernel
theorem dX10_thrift_6 : decode cX10_thrift 6 = .ok (.iconst 2, 1) := by decide +kernel
theorem dX10_thrift_7 : decode cX10_thrift 7 = .ok (.invokevirtual 195, 3) := by decide +kernel
theorem dX10_thrift_10 : decode cX10_thrift 10 = .ok (.istore_n 2, 1) := by decide +kernel
theorem dX10_thrift_11 : decode cX10_thrift 11 = .ok (.iconst 3, 1) := by decide +kernel
theorem dX10_thrift_12 : decode cX10_thrift 12 = .ok (.istore_n 3, 1) := by decide +kernel
theorem dX10_thrift_13 : decode cX10_thrift 13 = .ok (.iload_n 3, 1) := by decide +kernel
theorem dX10_thrift_14 : decode cX10_thrift 14 = .ok (.bipush 8, 2) := by decide +kernel
theorem dX10_thrift_16 : decode cX10_thrift 16 = .ok (.if_icmp .gt 30, 3) := by decide +kernel
theorem dX10_thrift_19 : decode cX10_thrift 19 = .ok (.aload_n 0, 1) := by decide +kernel
theorem dX10_thrift_20 : decode cX10_thrift 20 = .ok (.getfield 47, 3) := by decide +kernel
theorem dX10_thrift_23 : decode cX10_thrift 23 = .ok (.iload_n 3, 1) := by decide +kernel
theorem dX10_thrift_24 : decode cX10_thrift 24 = .ok (.invokevirtual 195, 3) := by decide +kernel
theorem dX10_thrift_27 : decode cX10_thrift 27 = .ok (.istore 4, 2) := by decide +kernel
theorem dX10_thrift_29 : decode cX10_thrift 29 = .ok (.iload 4, 2) := by decide +kernel
