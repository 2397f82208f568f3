theorem dX0_init_0 : decode cX0_init 0 = .ok (.aload_n 0, 1) := by decide +kernel
theorem dX0_init_1 : decode cX0_init 1 = .ok (.invokespecial 3, 3) := by decide +kernel
theorem dX0_init_4 : decode cX0_init 4 = .ok (.aload_n 0, 1) := by decide +kernel
theorem dX0_init_5 : decode cX0_init 5 = .ok (.bipush 32, 2) := by decide +kernel
theorem dX0_init_7 : decode cX0_init 7 = .ok (.newarray .int, 2) := by decide +kernel
theorem dX0_init_9 : decode cX0_init 9 = .ok (.putfield 9, 3) := by decide +kernel
theorem dX0_init_12 : decode cX0_init 12 = .ok (.aload_n 0, 1) := by decide +kernel
theorem dX0_init_13 : decode cX0_init 13 = .ok (.bipush 32, 2) := by decide +kernel
theorem dX0_init_15 : decode cX0_init 15 = .ok (.newarray .int, 2) := by decide +kernel
theorem dX0_init_17 : decode cX0_init 17 = .ok (.putfield 15, 3) := by decide +kernel
theorem dX0_init_20 : decode cX0_init 20 = .ok (.aload_n 0, 1) := by decide +kernel
theorem dX0_init_21 : decode cX0_init 21 = .ok (.bipush 32, 2) := by decide +kernel
theorem dX0_init_23 : decode cX0_init 23 = .ok (.newarray .int, 2) := by decide +kernel
theorem dX0_init_25 : decode cX0_init 25 = .ok (.putfield 18, 3) := by decide +kernel
theorem dX0_init_28 : decode cX0_init 28 = .ok (.aload_n 0, 1) := by decide +kernel
theorem dX0_init_29 : decode cX0_init 29 = .ok (.bipush 32, 2) := by decide +kernel
theorem dX0_init_31 : decode cX0_init 31 = .ok (.newarray .int, 2) := by decide +kernel
theorem dX0_init_33 : decode cX0_init 33 = .ok (.putfield 21, 3) := by decide +kernel
theorem dX0_init_36 : decode cX0_init 36 = .ok (.aload_n 0, 1) := by decide +kernel
theorem dX0_init_37 : decode cX0_init 37 = .ok (.iconst 0, 1) := by decide +kernel
theorem dX0_init_38 : decode cX0_init 38 = .ok (.putfield 24, 3) := by decide +kernel
theorem dX0_init_41 : decode cX0_init 41 = .ok (.aload_n 0, 1) := by decide +kernel
theorem dX0_init_42 : decode cX0_init 42 = .ok (.iconst 4, 1) := by decide +kernel
theorem dX0_init_43 : decode cX0_init 43 = .ok (.putfield 28, 3) := by decide +kernel
theorem dX0_init_46 : decode cX0_init 46 = .ok (.aload_n 0, 1) := by decide +kernel
theorem dX0_init_47 : decode cX0_init 47 = .ok (.iconst 0, 1) := by decide +kernel
theorem dX0_init_48 : decode cX0_init 48 = .ok (.putfield 31, 3) := by decide +kernel
theorem dX0_init_51 : decode cX0_init 51 = .ok (.aload_n 0, 1) := by decide +kernel
theorem dX0_init_52 : decode cX0_init 52 = .ok (.iconst 0, 1) := by decide +kernel
theorem dX0_init_53 : decode cX0_init 53 = .ok (.putfield 34, 3) := by decide +kernel
theorem dX0_init_56 : decode cX0_init 56 = .ok (.aload_n 0, 1) := by decide +kernel
theorem dX0_init_57 : decode cX0_init 57 = .ok (.iconst 0, 1) := by decide +kernel
theorem dX0_init_58 : decode cX0_init 58 = .ok (.putfield 37, 3) := by decide +kernel
theorem dX0_init_61 : decode cX0_init 61 = .ok (.aload_n 0, 1) := by decide +kernel
theorem dX0_init_62 : decode cX0_init 62 = .ok (.iconst 0, 1) := by decide +kernel
theorem dX0_init_63 : decode cX0_init 63 = .ok (.putfield 40, 3) := by decide +kernel
theorem dX0_init_66 : decode cX0_init 66 = .ok (.aload_n 0, 1) := by decide +kernel
theorem dX0_init_67 : decode cX0_init 67 = .ok (.iconst 0, 1) := by decide +kernel
theorem dX0_init_68 : decode cX0_init 68 = .ok (.putfield 43, 3) := by decide +kernel
theorem dX0_init_71 : decode cX0_init 71 = .ok (.aload_n 0, 1) := by decide +kernel
theorem dX0_init_72 : decode cX0_init 72 = .ok (.iconst 1, 1) := by decide +kernel
theorem dX0_init_73 : decode cX0_init 73 = .ok (.putfield 46, 3) := by decide +kernel
theorem dX0_init_76 : decode cX0_init 76 = .ok (.aload_n 0, 1) := by decide +kernel
theorem dX0_init_77 : decode cX0_init 77 = .ok (.iconst (-1), 1) := by decide +kernel
theorem dX0_init_78 : decode cX0_init 78 = .ok (.putfield 50, 3) := by decide +kernel
theorem dX0_init_81 : decode cX0_init 81 = .ok (.aload_n 0, 1) := by decide +kernel
theorem dX0_init_82 : decode cX0_init 82 = .ok (.iconst 0, 1) := by decide +kernel
theorem dX0_init_83 : decode cX0_init 83 = .ok (.putfield 53, 3) := by decide +kernel
theorem dX0_init_86 : decode cX0_init 86 = .ok (.aload_n 0, 1) := by decide +kernel
theorem dX0_init_87 : decode cX0_init 87 = .ok (.iconst 0, 1) := by decide +kernel
theorem dX0_init_88 : decode cX0_init 88 = .ok (.putfield 56, 3) := by decide +kernel
theorem dX0_init_91 : decode cX0_init 91 = .ok (.aload_n 0, 1) := by decide +kernel
theorem dX0_init_92 : decode cX0_init 92 = .ok (.aload_n 1, 1) := by decide +kernel
theorem dX0_init_93 : decode cX0_init 93 = .ok (.putfield 59, 3) := by decide +kernel
theorem dX0_init_96 : decode cX0_init 96 = .ok (.aload_n 0, 1) := by decide +kernel
theorem dX0_init_97 : decode cX0_init 97 = .ok (.aload_n 2, 1) := by decide +kernel
theorem dX0_init_98 : decode cX0_init 98 = .ok (.putfield 63, 3) := by decide +kernel
theorem dX0_init_101 : decode cX0_init 101 = .ok (.return_, 1) := by decide +kernel
theorem dX0_start_0 : decode cX0_start 0 = .ok (.aload_n 0, 1) := by decide +kernel
theorem dX0_start_1 : decode cX0_start 1 = .ok (.iload_n 1, 1) := by decide +kernel
theorem dX0_start_2 : decode cX0_start 2 = .ok (.putfield 24, 3) := by decide +kernel
theorem dX0_start_5 : decode cX0_start 5 = .ok (.aload_n 0, 1) := by decide +kernel
theorem dX0_start_6 : decode cX0_start 6 = .ok (.iload_n 3, 1) := by decide +kernel
theorem dX0_start_7 : decode cX0_start 7 = .ok (.putfield 28, 3) := by decide +kernel
theorem dX0_start_10 : decode cX0_start 10 = .ok (.aload_n 0, 1) := by decide +kernel
theorem dX0_start_11 : decode cX0_start 11 = .ok (.iload_n 2, 1) := by decide +kernel
theorem dX0_start_12 : decode cX0_start 12 = .ok (.aload_n 0, 1) := by decide +kernel
theorem dX0_start_13 : decode cX0_start 13 = .ok (.getfield 59, 3) := by decide +kernel
theorem dX0_start_16 : decode cX0_start 16 = .ok (.aload_n 0, 1) := by decide +kernel
theorem dX0_start_17 : decode cX0_start 17 = .ok (.getfield 24, 3) := by decide +kernel
theorem dX0_start_20 : decode cX0_start 20 = .ok (.invokevirtual 67, 3) := by decide +kernel
theorem dX0_start_23 : decode cX0_start 23 = .ok (.imul, 1) := by decide +kernel
theorem dX0_start_24 : decode cX0_start 24 = .ok (.putfield 31, 3) := by decide +kernel
theorem dX0_start_27 : decode cX0_start 27 = .ok (.aload_n 0, 1) := by decide +kernel
theorem dX0_start_28 : decode cX0_start 28 = .ok (.aload_n 0, 1) := by decide +kernel
theorem dX0_start_29 : decode cX0_start 29 = .ok (.getfield 59, 3) := by decide +kernel
theorem dX0_start_32 : decode cX0_start 32 = .ok (.aload_n 0, 1) := by decide +kernel
theorem dX0_start_33 : decode cX0_start 33 = .ok (.getfield 24, 3) := by decide +kernel
theorem dX0_start_36 : decode cX0_start 36 = .ok (.aload_n 0, 1) := by decide +kernel
theorem dX0_start_37 : decode cX0_start 37 = .ok (.getfield 28, 3) := by decide +kernel
theorem dX0_start_40 : decode cX0_start 40 = .ok (.invokevirtual 73, 3) := by decide +kernel
theorem dX0_start_43 : decode cX0_start 43 = .ok (.putfield 34, 3) := by decide +kernel
theorem dX0_start_46 : decode cX0_start 46 = .ok (.iconst 0, 1) := by decide +kernel
theorem dX0_start_47 : decode cX0_start 47 = .ok (.istore 4, 2) := by decide +kernel
theorem dX0_start_49 : decode cX0_start 49 = .ok (.iconst 0, 1) := by decide +kernel
theorem dX0_start_50 : decode cX0_start 50 = .ok (.istore 5, 2) := by decide +kernel
theorem dX0_start_52 : decode cX0_start 52 = .ok (.iload 5, 2) := by decide +kernel
theorem dX0_start_54 : decode cX0_start 54 = .ok (.aload_n 0, 1) := by decide +kernel
theorem dX0_start_55 : decode cX0_start 55 = .ok (.getfield 34, 3) := by decide +kernel
theorem dX0_start_58 : decode cX0_start 58 = .ok (.if_icmp .ge 90, 3) := by decide +kernel
theorem dX0_start_61 : decode cX0_start 61 = .ok (.aload_n 0, 1) := by decide +kernel
theorem dX0_start_62 : decode cX0_start 62 = .ok (.getfield 63, 3) := by decide +kernel
theorem dX0_start_65 : decode cX0_start 65 = .ok (.aload_n 0, 1) := by decide +kernel
theorem dX0_start_66 : decode cX0_start 66 = .ok (.getfield 24, 3) := by decide +kernel
theorem dX0_start_69 : decode cX0_start 69 = .ok (.iload 5, 2) := by decide +kernel
theorem dX0_start_71 : decode cX0_start 71 = .ok (.aload_n 0, 1) := by decide +kernel
theorem dX0_start_72 : decode cX0_start 72 = .ok (.getfield 28, 3) := by decide +kernel
theorem dX0_start_75 : decode cX0_start 75 = .ok (.invokevirtual 77, 3) := by decide +kernel
theorem dX0_start_78 : decode cX0_start 78 = .ok (.aload_n 0, 1) := by decide +kernel
theorem dX0_start_79 : decode cX0_start 79 = .ok (.getfield 9, 3) := by decide +kernel
theorem dX0_start_82 : decode cX0_start 82 = .ok (.iload 5, 2) := by decide +kernel
theorem dX0_start_84 : decode cX0_start 84 = .ok (.aload_n 0, 1) := by decide +kernel
theorem dX0_start_85 : decode cX0_start 85 = .ok (.getfield 63, 3) := by decide +kernel
theorem dX0_start_88 : decode cX0_start 88 = .ok (.getfield 83, 3) := by decide +kernel
theorem dX0_start_91 : decode cX0_start 91 = .ok (.iastore, 1) := by decide +kernel
theorem dX0_start_92 : decode cX0_start 92 = .ok (.aload_n 0, 1) := by decide +kernel
theorem dX0_start_93 : decode cX0_start 93 = .ok (.getfield 15, 3) := by decide +kernel
theorem dX0_start_96 : decode cX0_start 96 = .ok (.iload 5, 2) := by decide +kernel
theorem dX0_start_98 : decode cX0_start 98 = .ok (.aload_n 0, 1) := by decide +kernel
theorem dX0_start_99 : decode cX0_start 99 = .ok (.getfield 63, 3) := by decide +kernel
theorem dX0_start_102 : decode cX0_start 102 = .ok (.getfield 86, 3) := by decide +kernel
theorem dX0_start_105 : decode cX0_start 105 = .ok (.iastore, 1) := by decide +kernel
theorem dX0_start_106 : decode cX0_start 106 = .ok (.aload_n 0, 1) := by decide +kernel
theorem dX0_start_107 : decode cX0_start 107 = .ok (.getfield 18, 3) := by decide +kernel
theorem dX0_start_110 : decode cX0_start 110 = .ok (.iload 5, 2) := by decide +kernel
theorem dX0_start_112 : decode cX0_start 112 = .ok (.aload_n 0, 1) := by decide +kernel
theorem dX0_start_113 : decode cX0_start 113 = .ok (.getfield 63, 3) := by decide +kernel
theorem dX0_start_116 : decode cX0_start 116 = .ok (.getfield 89, 3) := by decide +kernel
theorem dX0_start_119 : decode cX0_start 119 = .ok (.iastore, 1) := by decide +kernel
theorem dX0_start_120 : decode cX0_start 120 = .ok (.aload_n 0, 1) := by decide +kernel
theorem dX0_start_121 : decode cX0_start 121 = .ok (.getfield 21, 3) := by decide +kernel
theorem dX0_start_124 : decode cX0_start 124 = .ok (.iload 5, 2) := by decide +kernel
theorem dX0_start_126 : decode cX0_start 126 = .ok (.iconst 0, 1) := by decide +kernel
theorem dX0_start_127 : decode cX0_start 127 = .ok (.iastore, 1) := by decide +kernel
theorem dX0_start_128 : decode cX0_start 128 = .ok (.iload 4, 2) := by decide +kernel
theorem dX0_start_130 : decode cX0_start 130 = .ok (.aload_n 0, 1) := by decide +kernel
theorem dX0_start_131 : decode cX0_start 131 = .ok (.getfield 63, 3) := by decide +kernel
theorem dX0_start_134 : decode cX0_start 134 = .ok (.getfield 89, 3) := by decide +kernel
theorem dX0_start_137 : decode cX0_start 137 = .ok (.invokestatic 92, 3) := by decide +kernel
theorem dX0_start_140 : decode cX0_start 140 = .ok (.istore 4, 2) := by decide +kernel
theorem dX0_start_142 : decode cX0_start 142 = .ok (.iinc 5 1, 3) := by decide +kernel
theorem dX0_start_145 : decode cX0_start 145 = .ok (.goto (-93), 3) := by decide +kernel
theorem dX0_start_148 : decode cX0_start 148 = .ok (.aload_n 0, 1) := by decide +kernel
theorem dX0_start_149 : decode cX0_start 149 = .ok (.aload_n 0, 1) := by decide +kernel
theorem dX0_start_150 : decode cX0_start 150 = .ok (.getfield 31, 3) := by decide +kernel
theorem dX0_start_153 : decode cX0_start 153 = .ok (.iload 4, 2) := by decide +kernel
theorem dX0_start_155 : decode cX0_start 155 = .ok (.imul, 1) := by decide +kernel
theorem dX0_start_156 : decode cX0_start 156 = .ok (.putfield 37, 3) := by decide +kernel
theorem dX0_start_159 : decode cX0_start 159 = .ok (.aload_n 0, 1) := by decide +kernel
theorem dX0_start_160 : decode cX0_start 160 = .ok (.iconst 0, 1) := by decide +kernel
theorem dX0_start_161 : decode cX0_start 161 = .ok (.putfield 40, 3) := by decide +kernel
theorem dX0_start_164 : decode cX0_start 164 = .ok (.aload_n 0, 1) := by decide +kernel
theorem dX0_start_165 : decode cX0_start 165 = .ok (.aload_n 0, 1) := by decide +kernel
theorem dX0_start_166 : decode cX0_start 166 = .ok (.getfield 34, 3) := by decide +kernel
theorem dX0_start_169 : decode cX0_start 169 = .ok (.ifCond .ne 7, 3) := by decide +kernel
theorem dX0_start_172 : decode cX0_start 172 = .ok (.iconst 1, 1) := by decide +kernel
theorem dX0_start_173 : decode cX0_start 173 = .ok (.goto 4, 3) := by decide +kernel
theorem dX0_start_176 : decode cX0_start 176 = .ok (.iconst 0, 1) := by decide +kernel
theorem dX0_start_177 : decode cX0_start 177 = .ok (.putfield 46, 3) := by decide +kernel
theorem dX0_start_180 : decode cX0_start 180 = .ok (.aload_n 0, 1) := by decide +kernel
theorem dX0_start_181 : decode cX0_start 181 = .ok (.aload_n 0, 1) := by decide +kernel
theorem dX0_start_182 : decode cX0_start 182 = .ok (.getfield 46, 3) := by decide +kernel
theorem dX0_start_185 : decode cX0_start 185 = .ok (.ifCond .eq 7, 3) := by decide +kernel
theorem dX0_start_188 : decode cX0_start 188 = .ok (.iconst 0, 1) := by decide +kernel
theorem dX0_start_189 : decode cX0_start 189 = .ok (.goto 9, 3) := by decide +kernel
theorem dX0_start_192 : decode cX0_start 192 = .ok (.aload_n 0, 1) := by decide +kernel
theorem dX0_start_193 : decode cX0_start 193 = .ok (.getfield 9, 3) := by decide +kernel
theorem dX0_start_196 : decode cX0_start 196 = .ok (.iconst 0, 1) := by decide +kernel
theorem dX0_start_197 : decode cX0_start 197 = .ok (.iaload, 1) := by decide +kernel
theorem dX0_start_198 : decode cX0_start 198 = .ok (.putfield 43, 3) := by decide +kernel
theorem dX0_start_201 : decode cX0_start 201 = .ok (.aload_n 0, 1) := by decide +kernel
theorem dX0_start_202 : decode cX0_start 202 = .ok (.iconst (-1), 1) := by decide +kernel
theorem dX0_start_203 : decode cX0_start 203 = .ok (.putfield 50, 3) := by decide +kernel
theorem dX0_start_206 : decode cX0_start 206 = .ok (.aload_n 0, 1) := by decide +kernel
theorem dX0_start_207 : decode cX0_start 207 = .ok (.iconst 0, 1) := by decide +kernel
theorem dX0_start_208 : decode cX0_start 208 = .ok (.putfield 53, 3) := by decide +kernel
theorem dX0_start_211 : decode cX0_start 211 = .ok (.aload_n 0, 1) := by decide +kernel
theorem dX0_start_212 : decode cX0_start 212 = .ok (.iconst 0, 1) := by decide +kernel
theorem dX0_start_213 : decode cX0_start 213 = .ok (.putfield 56, 3) := by decide +kernel
theorem dX0_start_216 : decode cX0_start 216 = .ok (.return_, 1) := by decide +kernel
theorem dX0_dip_0 : decode cX0_dip 0 = .ok (.aload_n 0, 1) := by decide +kernel
theorem dX0_dip_1 : decode cX0_dip 1 = .ok (.aload_n 0, 1) := by decide +kernel
theorem dX0_dip_2 : decode cX0_dip 2 = .ok (.iload_n 1, 1) := by decide +kernel
theorem dX0_dip_3 : decode cX0_dip 3 = .ok (.invokevirtual 97, 3) := by decide +kernel
theorem dX0_dip_6 : decode cX0_dip 6 = .ok (.putfield 40, 3) := by decide +kernel
theorem dX0_dip_9 : decode cX0_dip 9 = .ok (.aload_n 0, 1) := by decide +kernel
theorem dX0_dip_10 : decode cX0_dip 10 = .ok (.aload_n 0, 1) := by decide +kernel
theorem dX0_dip_11 : decode cX0_dip 11 = .ok (.getfield 40, 3) := by decide +kernel
theorem dX0_dip_14 : decode cX0_dip 14 = .ok (.aload_n 0, 1) := by decide +kernel
theorem dX0_dip_15 : decode cX0_dip 15 = .ok (.getfield 34, 3) := by decide +kernel
theorem dX0_dip_18 : decode cX0_dip 18 = .ok (.if_icmp .lt 7, 3) := by decide +kernel
theorem dX0_dip_21 : decode cX0_dip 21 = .ok (.iconst 1, 1) := by decide +kernel
theorem dX0_dip_22 : decode cX0_dip 22 = .ok (.goto 4, 3) := by decide +kernel
theorem dX0_dip_25 : decode cX0_dip 25 = .ok (.iconst 0, 1) := by decide +kernel
theorem dX0_dip_26 : decode cX0_dip 26 = .ok (.putfield 46, 3) := by decide +kernel
theorem dX0_dip_29 : decode cX0_dip 29 = .ok (.aload_n 0, 1) := by decide +kernel
theorem dX0_dip_30 : decode cX0_dip 30 = .ok (.getfield 46, 3) := by decide +kernel
theorem dX0_dip_33 : decode cX0_dip 33 = .ok (.ifCond .ne 20, 3) := by decide +kernel
theorem dX0_dip_36 : decode cX0_dip 36 = .ok (.aload_n 0, 1) := by decide +kernel
theorem dX0_dip_37 : decode cX0_dip 37 = .ok (.iload_n 1, 1) := by decide +kernel
theorem dX0_dip_38 : decode cX0_dip 38 = .ok (.aload_n 0, 1) := by decide +kernel
theorem dX0_dip_39 : decode cX0_dip 39 = .ok (.getfield 9, 3) := by decide +kernel
theorem dX0_dip_42 : decode cX0_dip 42 = .ok (.aload_n 0, 1) := by decide +kernel
theorem dX0_dip_43 : decode cX0_dip 43 = .ok (.getfield 40, 3) := by decide +kernel
theorem dX0_dip_46 : decode cX0_dip 46 = .ok (.iaload, 1) := by decide +kernel
theorem dX0_dip_47 : decode cX0_dip 47 = .ok (.invokestatic 92, 3) := by decide +kernel
theorem dX0_dip_50 : decode cX0_dip 50 = .ok (.putfield 43, 3) := by decide +kernel
theorem dX0_dip_53 : decode cX0_dip 53 = .ok (.return_, 1) := by decide +kernel
theorem dX0_seek_0 : decode cX0_seek 0 = .ok (.aload_n 0, 1) := by decide +kernel
theorem dX0_seek_1 : decode cX0_seek 1 = .ok (.getfield 43, 3) := by decide +kernel
theorem dX0_seek_4 : decode cX0_seek 4 = .ok (.iload_n 1, 1) := by decide +kernel
theorem dX0_seek_5 : decode cX0_seek 5 = .ok (.if_icmp .ge 8, 3) := by decide +kernel
theorem dX0_seek_8 : decode cX0_seek 8 = .ok (.aload_n 0, 1) := by decide +kernel
theorem dX0_seek_9 : decode cX0_seek 9 = .ok (.iload_n 1, 1) := by decide +kernel
theorem dX0_seek_10 : decode cX0_seek 10 = .ok (.invokevirtual 100, 3) := by decide +kernel
theorem dX0_seek_13 : decode cX0_seek 13 = .ok (.aload_n 0, 1) := by decide +kernel
theorem dX0_seek_14 : decode cX0_seek 14 = .ok (.getfield 46, 3) := by decide +kernel
theorem dX0_seek_17 : decode cX0_seek 17 = .ok (.ifCond .ne 12, 3) := by decide +kernel
theorem dX0_seek_20 : decode cX0_seek 20 = .ok (.aload_n 0, 1) := by decide +kernel
theorem dX0_seek_21 : decode cX0_seek 21 = .ok (.invokevirtual 104, 3) := by decide +kernel
theorem dX0_seek_24 : decode cX0_seek 24 = .ok (.aload_n 0, 1) := by decide +kernel
theorem dX0_seek_25 : decode cX0_seek 25 = .ok (.iload_n 1, 1) := by decide +kernel
theorem dX0_seek_26 : decode cX0_seek 26 = .ok (.invokevirtual 107, 3) := by decide +kernel
theorem dX0_seek_29 : decode cX0_seek 29 = .ok (.return_, 1) := by decide +kernel
theorem dX0_open_0 : decode cX0_open 0 = .ok (.aload_n 0, 1) := by decide +kernel
theorem dX0_open_1 : decode cX0_open 1 = .ok (.getfield 50, 3) := by decide +kernel
theorem dX0_open_4 : decode cX0_open 4 = .ok (.aload_n 0, 1) := by decide +kernel
theorem dX0_open_5 : decode cX0_open 5 = .ok (.getfield 40, 3) := by decide +kernel
theorem dX0_open_8 : decode cX0_open 8 = .ok (.if_icmp .eq 72, 3) := by decide +kernel
theorem dX0_open_11 : decode cX0_open 11 = .ok (.aload_n 0, 1) := by decide +kernel
theorem dX0_open_12 : decode cX0_open 12 = .ok (.aload_n 0, 1) := by decide +kernel
theorem dX0_open_13 : decode cX0_open 13 = .ok (.getfield 40, 3) := by decide +kernel
theorem dX0_open_16 : decode cX0_open 16 = .ok (.putfield 50, 3) := by decide +kernel
theorem dX0_open_19 : decode cX0_open 19 = .ok (.aload_n 0, 1) := by decide +kernel
theorem dX0_open_20 : decode cX0_open 20 = .ok (.getfield 21, 3) := by decide +kernel
theorem dX0_open_23 : decode cX0_open 23 = .ok (.aload_n 0, 1) := by decide +kernel
theorem dX0_open_24 : decode cX0_open 24 = .ok (.getfield 40, 3) := by decide +kernel
theorem dX0_open_27 : decode cX0_open 27 = .ok (.dup2, 1) := by decide +kernel
theorem dX0_open_28 : decode cX0_open 28 = .ok (.iaload, 1) := by decide +kernel
theorem dX0_open_29 : decode cX0_open 29 = .ok (.iconst 1, 1) := by decide +kernel
theorem dX0_open_30 : decode cX0_open 30 = .ok (.iadd, 1) := by decide +kernel
theorem dX0_open_31 : decode cX0_open 31 = .ok (.iastore, 1) := by decide +kernel
theorem dX0_open_32 : decode cX0_open 32 = .ok (.aload_n 0, 1) := by decide +kernel
theorem dX0_open_33 : decode cX0_open 33 = .ok (.dup, 1) := by decide +kernel
theorem dX0_open_34 : decode cX0_open 34 = .ok (.getfield 53, 3) := by decide +kernel
theorem dX0_open_37 : decode cX0_open 37 = .ok (.iconst 1, 1) := by decide +kernel
theorem dX0_open_38 : decode cX0_open 38 = .ok (.iadd, 1) := by decide +kernel
theorem dX0_open_39 : decode cX0_open 39 = .ok (.putfield 53, 3) := by decide +kernel
theorem dX0_open_42 : decode cX0_open 42 = .ok (.aload_n 0, 1) := by decide +kernel
theorem dX0_open_43 : decode cX0_open 43 = .ok (.dup, 1) := by decide +kernel
theorem dX0_open_44 : decode cX0_open 44 = .ok (.getfield 56, 3) := by decide +kernel
theorem dX0_open_47 : decode cX0_open 47 = .ok (.aload_n 0, 1) := by decide +kernel
theorem dX0_open_48 : decode cX0_open 48 = .ok (.getfield 28, 3) := by decide +kernel
theorem dX0_open_51 : decode cX0_open 51 = .ok (.aload_n 0, 1) := by decide +kernel
theorem dX0_open_52 : decode cX0_open 52 = .ok (.getfield 59, 3) := by decide +kernel
theorem dX0_open_55 : decode cX0_open 55 = .ok (.getfield 110, 3) := by decide +kernel
theorem dX0_open_58 : decode cX0_open 58 = .ok (.aload_n 0, 1) := by decide +kernel
theorem dX0_open_59 : decode cX0_open 59 = .ok (.getfield 24, 3) := by decide +kernel
theorem dX0_open_62 : decode cX0_open 62 = .ok (.iaload, 1) := by decide +kernel
theorem dX0_open_63 : decode cX0_open 63 = .ok (.aload_n 0, 1) := by decide +kernel
theorem dX0_open_64 : decode cX0_open 64 = .ok (.getfield 40, 3) := by decide +kernel
theorem dX0_open_67 : decode cX0_open 67 = .ok (.aload_n 0, 1) := by decide +kernel
theorem dX0_open_68 : decode cX0_open 68 = .ok (.getfield 28, 3) := by decide +kernel
theorem dX0_open_71 : decode cX0_open 71 = .ok (.imul, 1) := by decide +kernel
theorem dX0_open_72 : decode cX0_open 72 = .ok (.isub, 1) := by decide +kernel
theorem dX0_open_73 : decode cX0_open 73 = .ok (.invokestatic 113, 3) := by decide +kernel
theorem dX0_open_76 : decode cX0_open 76 = .ok (.iadd, 1) := by decide +kernel
theorem dX0_open_77 : decode cX0_open 77 = .ok (.putfield 56, 3) := by decide +kernel
theorem dX0_open_80 : decode cX0_open 80 = .ok (.return_, 1) := by decide +kernel
theorem dX0_moveOn_0 : decode cX0_moveOn 0 = .ok (.aload_n 0, 1) := by decide +kernel
theorem dX0_moveOn_1 : decode cX0_moveOn 1 = .ok (.getfield 40, 3) := by decide +kernel
theorem dX0_moveOn_4 : decode cX0_moveOn 4 = .ok (.aload_n 0, 1) := by decide +kernel
theorem dX0_moveOn_5 : decode cX0_moveOn 5 = .ok (.getfield 28, 3) := by decide +kernel
theorem dX0_moveOn_8 : decode cX0_moveOn 8 = .ok (.imul, 1) := by decide +kernel
theorem dX0_moveOn_9 : decode cX0_moveOn 9 = .ok (.istore_n 2, 1) := by decide +kernel
theorem dX0_moveOn_10 : decode cX0_moveOn 10 = .ok (.iload_n 2, 1) := by decide +kernel
theorem dX0_moveOn_11 : decode cX0_moveOn 11 = .ok (.aload_n 0, 1) := by decide +kernel
theorem dX0_moveOn_12 : decode cX0_moveOn 12 = .ok (.getfield 28, 3) := by decide +kernel
theorem dX0_moveOn_15 : decode cX0_moveOn 15 = .ok (.iadd, 1) := by decide +kernel
theorem dX0_moveOn_16 : decode cX0_moveOn 16 = .ok (.aload_n 0, 1) := by decide +kernel
theorem dX0_moveOn_17 : decode cX0_moveOn 17 = .ok (.getfield 59, 3) := by decide +kernel
theorem dX0_moveOn_20 : decode cX0_moveOn 20 = .ok (.getfield 110, 3) := by decide +kernel
theorem dX0_moveOn_23 : decode cX0_moveOn 23 = .ok (.aload_n 0, 1) := by decide +kernel
theorem dX0_moveOn_24 : decode cX0_moveOn 24 = .ok (.getfield 24, 3) := by decide +kernel
theorem dX0_moveOn_27 : decode cX0_moveOn 27 = .ok (.iaload, 1) := by decide +kernel
theorem dX0_moveOn_28 : decode cX0_moveOn 28 = .ok (.invokestatic 113, 3) := by decide +kernel
theorem dX0_moveOn_31 : decode cX0_moveOn 31 = .ok (.istore_n 3, 1) := by decide +kernel
theorem dX0_moveOn_32 : decode cX0_moveOn 32 = .ok (.iload_n 2, 1) := by decide +kernel
theorem dX0_moveOn_33 : decode cX0_moveOn 33 = .ok (.istore 4, 2) := by decide +kernel
theorem dX0_moveOn_35 : decode cX0_moveOn 35 = .ok (.iload 4, 2) := by decide +kernel
theorem dX0_moveOn_37 : decode cX0_moveOn 37 = .ok (.iload_n 3, 1) := by decide +kernel
theorem dX0_moveOn_38 : decode cX0_moveOn 38 = .ok (.if_icmp .ge 48, 3) := by decide +kernel
theorem dX0_moveOn_41 : decode cX0_moveOn 41 = .ok (.aload_n 0, 1) := by decide +kernel
theorem dX0_moveOn_42 : decode cX0_moveOn 42 = .ok (.getfield 59, 3) := by decide +kernel
theorem dX0_moveOn_45 : decode cX0_moveOn 45 = .ok (.getfield 116, 3) := by decide +kernel
theorem dX0_moveOn_48 : decode cX0_moveOn 48 = .ok (.aload_n 0, 1) := by decide +kernel
theorem dX0_moveOn_49 : decode cX0_moveOn 49 = .ok (.getfield 24, 3) := by decide +kernel
theorem dX0_moveOn_52 : decode cX0_moveOn 52 = .ok (.aaload, 1) := by decide +kernel
theorem dX0_moveOn_53 : decode cX0_moveOn 53 = .ok (.iload 4, 2) := by decide +kernel
theorem dX0_moveOn_55 : decode cX0_moveOn 55 = .ok (.iaload, 1) := by decide +kernel
theorem dX0_moveOn_56 : decode cX0_moveOn 56 = .ok (.iload_n 1, 1) := by decide +kernel
theorem dX0_moveOn_57 : decode cX0_moveOn 57 = .ok (.if_icmp .lt 23, 3) := by decide +kernel
theorem dX0_moveOn_60 : decode cX0_moveOn 60 = .ok (.aload_n 0, 1) := by decide +kernel
theorem dX0_moveOn_61 : decode cX0_moveOn 61 = .ok (.aload_n 0, 1) := by decide +kernel
theorem dX0_moveOn_62 : decode cX0_moveOn 62 = .ok (.getfield 59, 3) := by decide +kernel
theorem dX0_moveOn_65 : decode cX0_moveOn 65 = .ok (.getfield 116, 3) := by decide +kernel
theorem dX0_moveOn_68 : decode cX0_moveOn 68 = .ok (.aload_n 0, 1) := by decide +kernel
theorem dX0_moveOn_69 : decode cX0_moveOn 69 = .ok (.getfield 24, 3) := by decide +kernel
theorem dX0_moveOn_72 : decode cX0_moveOn 72 = .ok (.aaload, 1) := by decide +kernel
theorem dX0_moveOn_73 : decode cX0_moveOn 73 = .ok (.iload 4, 2) := by decide +kernel
theorem dX0_moveOn_75 : decode cX0_moveOn 75 = .ok (.iaload, 1) := by decide +kernel
theorem dX0_moveOn_76 : decode cX0_moveOn 76 = .ok (.putfield 43, 3) := by decide +kernel
theorem dX0_moveOn_79 : decode cX0_moveOn 79 = .ok (.return_, 1) := by decide +kernel
theorem dX0_moveOn_80 : decode cX0_moveOn 80 = .ok (.iinc 4 1, 3) := by decide +kernel
theorem dX0_moveOn_83 : decode cX0_moveOn 83 = .ok (.goto (-48), 3) := by decide +kernel
theorem dX0_moveOn_86 : decode cX0_moveOn 86 = .ok (.return_, 1) := by decide +kernel
theorem dX0_blockReaching_0 : decode cX0_blockReaching 0 = .ok (.aload_n 0, 1) := by decide +kernel
theorem dX0_blockReaching_1 : decode cX0_blockReaching 1 = .ok (.getfield 40, 3) := by decide +kernel
theorem dX0_blockReaching_4 : decode cX0_blockReaching 4 = .ok (.istore_n 2, 1) := by decide +kernel
theorem dX0_blockReaching_5 : decode cX0_blockReaching 5 = .ok (.iload_n 2, 1) := by decide +kernel
theorem dX0_blockReaching_6 : decode cX0_blockReaching 6 = .ok (.aload_n 0, 1) := by decide +kernel
theorem dX0_blockReaching_7 : decode cX0_blockReaching 7 = .ok (.getfield 34, 3) := by decide +kernel
theorem dX0_blockReaching_10 : decode cX0_blockReaching 10 = .ok (.if_icmp .ge 19, 3) := by decide +kernel
theorem dX0_blockReaching_13 : decode cX0_blockReaching 13 = .ok (.aload_n 0, 1) := by decide +kernel
theorem dX0_blockReaching_14 : decode cX0_blockReaching 14 = .ok (.getfield 15, 3) := by decide +kernel
theorem dX0_blockReaching_17 : decode cX0_blockReaching 17 = .ok (.iload_n 2, 1) := by decide +kernel
theorem dX0_blockReaching_18 : decode cX0_blockReaching 18 = .ok (.iaload, 1) := by decide +kernel
theorem dX0_blockReaching_19 : decode cX0_blockReaching 19 = .ok (.iload_n 1, 1) := by decide +kernel
theorem dX0_blockReaching_20 : decode cX0_blockReaching 20 = .ok (.if_icmp .ge 9, 3) := by decide +kernel
theorem dX0_blockReaching_23 : decode cX0_blockReaching 23 = .ok (.iinc 2 1, 3) := by decide +kernel
theorem dX0_blockReaching_26 : decode cX0_blockReaching 26 = .ok (.goto (-21), 3) := by decide +kernel
theorem dX0_blockReaching_29 : decode cX0_blockReaching 29 = .ok (.iload_n 2, 1) := by decide +kernel
theorem dX0_blockReaching_30 : decode cX0_blockReaching 30 = .ok (.ireturn, 1) := by decide +kernel
theorem dX0_boundReaching_0 : decode cX0_boundReaching 0 = .ok (.aload_n 0, 1) := by decide +kernel
theorem dX0_boundReaching_1 : decode cX0_boundReaching 1 = .ok (.iload_n 1, 1) := by decide +kernel
theorem dX0_boundReaching_2 : decode cX0_boundReaching 2 = .ok (.invokevirtual 97, 3) := by decide +kernel
theorem dX0_boundReaching_5 : decode cX0_boundReaching 5 = .ok (.istore_n 2, 1) := by decide +kernel
theorem dX0_boundReaching_6 : decode cX0_boundReaching 6 = .ok (.iload_n 2, 1) := by decide +kernel
theorem dX0_boundReaching_7 : decode cX0_boundReaching 7 = .ok (.aload_n 0, 1) := by decide +kernel
theorem dX0_boundReaching_8 : decode cX0_boundReaching 8 = .ok (.getfield 34, 3) := by decide +kernel
theorem dX0_boundReaching_11 : decode cX0_boundReaching 11 = .ok (.if_icmp .ge 17, 3) := by decide +kernel
theorem dX0_boundReaching_14 : decode cX0_boundReaching 14 = .ok (.aload_n 0, 1) := by decide +kernel
theorem dX0_boundReaching_15 : decode cX0_boundReaching 15 = .ok (.getfield 31, 3) := by decide +kernel
theorem dX0_boundReaching_18 : decode cX0_boundReaching 18 = .ok (.aload_n 0, 1) := by decide +kernel
theorem dX0_boundReaching_19 : decode cX0_boundReaching 19 = .ok (.getfield 18, 3) := by decide +kernel
theorem dX0_boundReaching_22 : decode cX0_boundReaching 22 = .ok (.iload_n 2, 1) := by decide +kernel
theorem dX0_boundReaching_23 : decode cX0_boundReaching 23 = .ok (.iaload, 1) := by decide +kernel
theorem dX0_boundReaching_24 : decode cX0_boundReaching 24 = .ok (.imul, 1) := by decide +kernel
theorem dX0_boundReaching_25 : decode cX0_boundReaching 25 = .ok (.goto 4, 3) := by decide +kernel
theorem dX0_boundReaching_28 : decode cX0_boundReaching 28 = .ok (.iconst 0, 1) := by decide +kernel
theorem dX0_boundReaching_29 : decode cX0_boundReaching 29 = .ok (.ireturn, 1) := by decide +kernel
theorem dX0_behindReaching_0 : decode cX0_behindReaching 0 = .ok (.aload_n 0, 1) := by decide +kernel
theorem dX0_behindReaching_1 : decode cX0_behindReaching 1 = .ok (.iload_n 1, 1) := by decide +kernel
theorem dX0_behindReaching_2 : decode cX0_behindReaching 2 = .ok (.invokevirtual 97, 3) := by decide +kernel
theorem dX0_behindReaching_5 : decode cX0_behindReaching 5 = .ok (.istore_n 2, 1) := by decide +kernel
theorem dX0_behindReaching_6 : decode cX0_behindReaching 6 = .ok (.iload_n 2, 1) := by decide +kernel
theorem dX0_behindReaching_7 : decode cX0_behindReaching 7 = .ok (.aload_n 0, 1) := by decide +kernel
theorem dX0_behindReaching_8 : decode cX0_behindReaching 8 = .ok (.getfield 34, 3) := by decide +kernel
theorem dX0_behindReaching_11 : decode cX0_behindReaching 11 = .ok (.if_icmp .ge 14, 3) := by decide +kernel
theorem dX0_behindReaching_14 : decode cX0_behindReaching 14 = .ok (.aload_n 0, 1) := by decide +kernel
theorem dX0_behindReaching_15 : decode cX0_behindReaching 15 = .ok (.getfield 15, 3) := by decide +kernel
theorem dX0_behindReaching_18 : decode cX0_behindReaching 18 = .ok (.iload_n 2, 1) := by decide +kernel
theorem dX0_behindReaching_19 : decode cX0_behindReaching 19 = .ok (.iaload, 1) := by decide +kernel
theorem dX0_behindReaching_20 : decode cX0_behindReaching 20 = .ok (.iconst 1, 1) := by decide +kernel
theorem dX0_behindReaching_21 : decode cX0_behindReaching 21 = .ok (.iadd, 1) := by decide +kernel
theorem dX0_behindReaching_22 : decode cX0_behindReaching 22 = .ok (.goto 5, 3) := by decide +kernel
theorem dX0_behindReaching_25 : decode cX0_behindReaching 25 = .ok (.bipush 64, 2) := by decide +kernel
theorem dX0_behindReaching_27 : decode cX0_behindReaching 27 = .ok (.ireturn, 1) := by decide +kernel
theorem dX1_init_0 : decode cX1_init 0 = .ok (.aload_n 0, 1) := by decide +kernel
theorem dX1_init_1 : decode cX1_init 1 = .ok (.invokespecial 3, 3) := by decide +kernel
theorem dX1_init_4 : decode cX1_init 4 = .ok (.aload_n 0, 1) := by decide +kernel
theorem dX1_init_5 : decode cX1_init 5 = .ok (.sipush 150, 3) := by decide +kernel
theorem dX1_init_8 : decode cX1_init 8 = .ok (.newarray .int, 2) := by decide +kernel
theorem dX1_init_10 : decode cX1_init 10 = .ok (.putfield 9, 3) := by decide +kernel
theorem dX1_init_13 : decode cX1_init 13 = .ok (.aload_n 0, 1) := by decide +kernel
theorem dX1_init_14 : decode cX1_init 14 = .ok (.iconst 0, 1) := by decide +kernel
theorem dX1_init_15 : decode cX1_init 15 = .ok (.putfield 15, 3) := by decide +kernel
theorem dX1_init_18 : decode cX1_init 18 = .ok (.aload_n 0, 1) := by decide +kernel
theorem dX1_init_19 : decode cX1_init 19 = .ok (.iconst (-1), 1) := by decide +kernel
theorem dX1_init_20 : decode cX1_init 20 = .ok (.putfield 19, 3) := by decide +kernel
theorem dX1_init_23 : decode cX1_init 23 = .ok (.aload_n 0, 1) := by decide +kernel
theorem dX1_init_24 : decode cX1_init 24 = .ok (.aload_n 1, 1) := by decide +kernel
theorem dX1_init_25 : decode cX1_init 25 = .ok (.putfield 22, 3) := by decide +kernel
theorem dX1_init_28 : decode cX1_init 28 = .ok (.return_, 1) := by decide +kernel
theorem dX1_read_0 : decode cX1_read 0 = .ok (.aload_n 0, 1) := by decide +kernel
theorem dX1_read_1 : decode cX1_read 1 = .ok (.getfield 22, 3) := by decide +kernel
theorem dX1_read_4 : decode cX1_read 4 = .ok (.getfield 26, 3) := by decide +kernel
theorem dX1_read_7 : decode cX1_read 7 = .ok (.istore_n 3, 1) := by decide +kernel
theorem dX1_read_8 : decode cX1_read 8 = .ok (.aload_n 0, 1) := by decide +kernel
theorem dX1_read_9 : decode cX1_read 9 = .ok (.aload_n 1, 1) := by decide +kernel
theorem dX1_read_10 : decode cX1_read 10 = .ok (.iload_n 2, 1) := by decide +kernel
theorem dX1_read_11 : decode cX1_read 11 = .ok (.invokevirtual 31, 3) := by decide +kernel
theorem dX1_read_14 : decode cX1_read 14 = .ok (.istore 4, 2) := by decide +kernel
theorem dX1_read_16 : decode cX1_read 16 = .ok (.iload 4, 2) := by decide +kernel
theorem dX1_read_18 : decode cX1_read 18 = .ok (.ifCond .ne 11, 3) := by decide +kernel
theorem dX1_read_21 : decode cX1_read 21 = .ok (.aload_n 0, 1) := by decide +kernel
theorem dX1_read_22 : decode cX1_read 22 = .ok (.iconst (-1), 1) := by decide +kernel
theorem dX1_read_23 : decode cX1_read 23 = .ok (.putfield 19, 3) := by decide +kernel
theorem dX1_read_26 : decode cX1_read 26 = .ok (.goto 11, 3) := by decide +kernel
theorem dX1_read_29 : decode cX1_read 29 = .ok (.aload_n 0, 1) := by decide +kernel
theorem dX1_read_30 : decode cX1_read 30 = .ok (.getfield 22, 3) := by decide +kernel
theorem dX1_read_33 : decode cX1_read 33 = .ok (.iload_n 3, 1) := by decide +kernel
theorem dX1_read_34 : decode cX1_read 34 = .ok (.putfield 26, 3) := by decide +kernel
theorem dX1_read_37 : decode cX1_read 37 = .ok (.iload 4, 2) := by decide +kernel
theorem dX1_read_39 : decode cX1_read 39 = .ok (.ireturn, 1) := by decide +kernel
theorem dX1_readWords_0 : decode cX1_readWords 0 = .ok (.aload_n 0, 1) := by decide +kernel
theorem dX1_readWords_1 : decode cX1_readWords 1 = .ok (.iconst 0, 1) := by decide +kernel
theorem dX1_readWords_2 : decode cX1_readWords 2 = .ok (.putfield 15, 3) := by decide +kernel
theorem dX1_readWords_5 : decode cX1_readWords 5 = .ok (.iconst (-1), 1) := by decide +kernel
theorem dX1_readWords_6 : decode cX1_readWords 6 = .ok (.istore_n 3, 1) := by decide +kernel
theorem dX1_readWords_7 : decode cX1_readWords 7 = .ok (.lconst 0, 1) := by decide +kernel
theorem dX1_readWords_8 : decode cX1_readWords 8 = .ok (.lstore 4, 2) := by decide +kernel
theorem dX1_readWords_10 : decode cX1_readWords 10 = .ok (.iconst 0, 1) := by decide +kernel
theorem dX1_readWords_11 : decode cX1_readWords 11 = .ok (.istore 6, 2) := by decide +kernel
theorem dX1_readWords_13 : decode cX1_readWords 13 = .ok (.iload 6, 2) := by decide +kernel
theorem dX1_readWords_15 : decode cX1_readWords 15 = .ok (.iload_n 2, 1) := by decide +kernel
theorem dX1_readWords_16 : decode cX1_readWords 16 = .ok (.if_icmp .gt 130, 3) := by decide +kernel
theorem dX1_readWords_19 : decode cX1_readWords 19 = .ok (.iload 6, 2) := by decide +kernel
theorem dX1_readWords_21 : decode cX1_readWords 21 = .ok (.iload_n 2, 1) := by decide +kernel
theorem dX1_readWords_22 : decode cX1_readWords 22 = .ok (.if_icmp .ge 10, 3) := by decide +kernel
theorem dX1_readWords_25 : decode cX1_readWords 25 = .ok (.aload_n 1, 1) := by decide +kernel
theorem dX1_readWords_26 : decode cX1_readWords 26 = .ok (.iload 6, 2) := by decide +kernel
theorem dX1_readWords_28 : decode cX1_readWords 28 = .ok (.iaload, 1) := by decide +kernel
theorem dX1_readWords_29 : decode cX1_readWords 29 = .ok (.goto 5, 3) := by decide +kernel
theorem dX1_readWords_32 : decode cX1_readWords 32 = .ok (.bipush 32, 2) := by decide +kernel
theorem dX1_readWords_34 : decode cX1_readWords 34 = .ok (.istore 7, 2) := by decide +kernel
theorem dX1_readWords_36 : decode cX1_readWords 36 = .ok (.iload 7, 2) := by decide +kernel
theorem dX1_readWords_38 : decode cX1_readWords 38 = .ok (.invokestatic 35, 3) := by decide +kernel
theorem dX1_readWords_41 : decode cX1_readWords 41 = .ok (.ifCond .eq 61, 3) := by decide +kernel
theorem dX1_readWords_44 : decode cX1_readWords 44 = .ok (.iload_n 3, 1) := by decide +kernel
theorem dX1_readWords_45 : decode cX1_readWords 45 = .ok (.iconst (-1), 1) := by decide +kernel
theorem dX1_readWords_46 : decode cX1_readWords 46 = .ok (.if_icmp .ne 27, 3) := by decide +kernel
theorem dX1_readWords_49 : decode cX1_readWords 49 = .ok (.iload 6, 2) := by decide +kernel
theorem dX1_readWords_51 : decode cX1_readWords 51 = .ok (.istore_n 3, 1) := by decide +kernel
theorem dX1_readWords_52 : decode cX1_readWords 52 = .ok (.lconst 0, 1) := by decide +kernel
theorem dX1_readWords_53 : decode cX1_readWords 53 = .ok (.lstore 4, 2) := by decide +kernel
theorem dX1_readWords_55 : decode cX1_readWords 55 = .ok (.aload_n 0, 1) := by decide +kernel
theorem dX1_readWords_56 : decode cX1_readWords 56 = .ok (.getfield 15, 3) := by decide +kernel
theorem dX1_readWords_59 : decode cX1_readWords 59 = .ok (.sipush 150, 3) := by decide +kernel
theorem dX1_readWords_62 : decode cX1_readWords 62 = .ok (.if_icmp .lt 11, 3) := by decide +kernel
theorem dX1_readWords_65 : decode cX1_readWords 65 = .ok (.aload_n 0, 1) := by decide +kernel
theorem dX1_readWords_66 : decode cX1_readWords 66 = .ok (.iconst 2, 1) := by decide +kernel
theorem dX1_readWords_67 : decode cX1_readWords 67 = .ok (.iload 6, 2) := by decide +kernel
theorem dX1_readWords_69 : decode cX1_readWords 69 = .ok (.invokevirtual 39, 3) := by decide +kernel
theorem dX1_readWords_72 : decode cX1_readWords 72 = .ok (.ireturn, 1) := by decide +kernel
theorem dX1_readWords_73 : decode cX1_readWords 73 = .ok (.iload 6, 2) := by decide +kernel
theorem dX1_readWords_75 : decode cX1_readWords 75 = .ok (.iload_n 3, 1) := by decide +kernel
theorem dX1_readWords_76 : decode cX1_readWords 76 = .ok (.isub, 1) := by decide +kernel
theorem dX1_readWords_77 : decode cX1_readWords 77 = .ok (.bipush 8, 2) := by decide +kernel
theorem dX1_readWords_79 : decode cX1_readWords 79 = .ok (.if_icmp .lt 11, 3) := by decide +kernel
theorem dX1_readWords_82 : decode cX1_readWords 82 = .ok (.aload_n 0, 1) := by decide +kernel
theorem dX1_readWords_83 : decode cX1_readWords 83 = .ok (.iconst 1, 1) := by decide +kernel
theorem dX1_readWords_84 : decode cX1_readWords 84 = .ok (.iload 6, 2) := by decide +kernel
theorem dX1_readWords_86 : decode cX1_readWords 86 = .ok (.invokevirtual 39, 3) := by decide +kernel
theorem dX1_readWords_89 : decode cX1_readWords 89 = .ok (.ireturn, 1) := by decide +kernel
theorem dX1_readWords_90 : decode cX1_readWords 90 = .ok (.lload 4, 2) := by decide +kernel
theorem dX1_readWords_92 : decode cX1_readWords 92 = .ok (.iload 7, 2) := by decide +kernel
theorem dX1_readWords_94 : decode cX1_readWords 94 = .ok (.invokestatic 43, 3) := by decide +kernel
theorem dX1_readWords_97 : decode cX1_readWords 97 = .ok (.lstore 4, 2) := by decide +kernel
theorem dX1_readWords_99 : decode cX1_readWords 99 = .ok (.goto 41, 3) := by decide +kernel
theorem dX1_readWords_102 : decode cX1_readWords 102 = .ok (.iload_n 3, 1) := by decide +kernel
theorem dX1_readWords_103 : decode cX1_readWords 103 = .ok (.iconst (-1), 1) := by decide +kernel
theorem dX1_readWords_104 : decode cX1_readWords 104 = .ok (.if_icmp .eq 19, 3) := by decide +kernel
theorem dX1_readWords_107 : decode cX1_readWords 107 = .ok (.aload_n 0, 1) := by decide +kernel
theorem dX1_readWords_108 : decode cX1_readWords 108 = .ok (.lload 4, 2) := by decide +kernel
theorem dX1_readWords_110 : decode cX1_readWords 110 = .ok (.invokevirtual 47, 3) := by decide +kernel
theorem dX1_readWords_113 : decode cX1_readWords 113 = .ok (.ifCond .ne 10, 3) := by decide +kernel
theorem dX1_readWords_116 : decode cX1_readWords 116 = .ok (.aload_n 0, 1) := by decide +kernel
theorem dX1_readWords_117 : decode cX1_readWords 117 = .ok (.iconst 2, 1) := by decide +kernel
theorem dX1_readWords_118 : decode cX1_readWords 118 = .ok (.iload_n 3, 1) := by decide +kernel
theorem dX1_readWords_119 : decode cX1_readWords 119 = .ok (.invokevirtual 39, 3) := by decide +kernel
theorem dX1_readWords_122 : decode cX1_readWords 122 = .ok (.ireturn, 1) := by decide +kernel
theorem dX1_readWords_123 : decode cX1_readWords 123 = .ok (.iconst (-1), 1) := by decide +kernel
theorem dX1_readWords_124 : decode cX1_readWords 124 = .ok (.istore_n 3, 1) := by decide +kernel
theorem dX1_readWords_125 : decode cX1_readWords 125 = .ok (.iload 7, 2) := by decide +kernel
theorem dX1_readWords_127 : decode cX1_readWords 127 = .ok (.bipush 32, 2) := by decide +kernel
theorem dX1_readWords_129 : decode cX1_readWords 129 = .ok (.if_icmp .eq 11, 3) := by decide +kernel
theorem dX1_readWords_132 : decode cX1_readWords 132 = .ok (.aload_n 0, 1) := by decide +kernel
theorem dX1_readWords_133 : decode cX1_readWords 133 = .ok (.iconst 1, 1) := by decide +kernel
theorem dX1_readWords_134 : decode cX1_readWords 134 = .ok (.iload 6, 2) := by decide +kernel
theorem dX1_readWords_136 : decode cX1_readWords 136 = .ok (.invokevirtual 39, 3) := by decide +kernel
theorem dX1_readWords_139 : decode cX1_readWords 139 = .ok (.ireturn, 1) := by decide +kernel
theorem dX1_readWords_140 : decode cX1_readWords 140 = .ok (.iinc 6 1, 3) := by decide +kernel
theorem dX1_readWords_143 : decode cX1_readWords 143 = .ok (.goto (-130), 3) := by decide +kernel
theorem dX1_readWords_146 : decode cX1_readWords 146 = .ok (.aload_n 0, 1) := by decide +kernel
theorem dX1_readWords_147 : decode cX1_readWords 147 = .ok (.getfield 15, 3) := by decide +kernel
theorem dX1_readWords_150 : decode cX1_readWords 150 = .ok (.ifCond .ne 12, 3) := by decide +kernel
theorem dX1_readWords_153 : decode cX1_readWords 153 = .ok (.aload_n 0, 1) := by decide +kernel
theorem dX1_readWords_154 : decode cX1_readWords 154 = .ok (.iconst 1, 1) := by decide +kernel
theorem dX1_readWords_155 : decode cX1_readWords 155 = .ok (.iload_n 2, 1) := by decide +kernel
theorem dX1_readWords_156 : decode cX1_readWords 156 = .ok (.invokevirtual 39, 3) := by decide +kernel
theorem dX1_readWords_159 : decode cX1_readWords 159 = .ok (.goto 4, 3) := by decide +kernel
theorem dX1_readWords_162 : decode cX1_readWords 162 = .ok (.iconst 0, 1) := by decide +kernel
theorem dX1_readWords_163 : decode cX1_readWords 163 = .ok (.ireturn, 1) := by decide +kernel
theorem dX1_take_0 : decode cX1_take 0 = .ok (.aload_n 0, 1) := by decide +kernel
theorem dX1_take_1 : decode cX1_take 1 = .ok (.getfield 22, 3) := by decide +kernel
theorem dX1_take_4 : decode cX1_take 4 = .ok (.lload_n 1, 1) := by decide +kernel
theorem dX1_take_5 : decode cX1_take 5 = .ok (.invokevirtual 51, 3) := by decide +kernel
theorem dX1_take_8 : decode cX1_take 8 = .ok (.istore_n 3, 1) := by decide +kernel
theorem dX1_take_9 : decode cX1_take 9 = .ok (.iload_n 3, 1) := by decide +kernel
theorem dX1_take_10 : decode cX1_take 10 = .ok (.iconst (-1), 1) := by decide +kernel
theorem dX1_take_11 : decode cX1_take 11 = .ok (.if_icmp .ne 5, 3) := by decide +kernel
theorem dX1_take_14 : decode cX1_take 14 = .ok (.iconst 0, 1) := by decide +kernel
theorem dX1_take_15 : decode cX1_take 15 = .ok (.ireturn, 1) := by decide +kernel
theorem dX1_take_16 : decode cX1_take 16 = .ok (.aload_n 0, 1) := by decide +kernel
theorem dX1_take_17 : decode cX1_take 17 = .ok (.getfield 9, 3) := by decide +kernel
theorem dX1_take_20 : decode cX1_take 20 = .ok (.aload_n 0, 1) := by decide +kernel
theorem dX1_take_21 : decode cX1_take 21 = .ok (.getfield 15, 3) := by decide +kernel
theorem dX1_take_24 : decode cX1_take 24 = .ok (.iload_n 3, 1) := by decide +kernel
theorem dX1_take_25 : decode cX1_take 25 = .ok (.iastore, 1) := by decide +kernel
theorem dX1_take_26 : decode cX1_take 26 = .ok (.aload_n 0, 1) := by decide +kernel
theorem dX1_take_27 : decode cX1_take 27 = .ok (.dup, 1) := by decide +kernel
theorem dX1_take_28 : decode cX1_take 28 = .ok (.getfield 15, 3) := by decide +kernel
theorem dX1_take_31 : decode cX1_take 31 = .ok (.iconst 1, 1) := by decide +kernel
theorem dX1_take_32 : decode cX1_take 32 = .ok (.iadd, 1) := by decide +kernel
theorem dX1_take_33 : decode cX1_take 33 = .ok (.putfield 15, 3) := by decide +kernel
theorem dX1_take_36 : decode cX1_take 36 = .ok (.iconst 1, 1) := by decide +kernel
theorem dX1_take_37 : decode cX1_take 37 = .ok (.ireturn, 1) := by decide +kernel
theorem dX1_faultAt_0 : decode cX1_faultAt 0 = .ok (.aload_n 0, 1) := by decide +kernel
theorem dX1_faultAt_1 : decode cX1_faultAt 1 = .ok (.iload_n 2, 1) := by decide +kernel
theorem dX1_faultAt_2 : decode cX1_faultAt 2 = .ok (.putfield 19, 3) := by decide +kernel
theorem dX1_faultAt_5 : decode cX1_faultAt 5 = .ok (.iload_n 1, 1) := by decide +kernel
theorem dX1_faultAt_6 : decode cX1_faultAt 6 = .ok (.ireturn, 1) := by decide +kernel
theorem dX2_init_0 : decode cX2_init 0 = .ok (.aload_n 0, 1) := by decide +kernel
theorem dX2_init_1 : decode cX2_init 1 = .ok (.invokespecial 3, 3) := by decide +kernel
theorem dX2_init_4 : decode cX2_init 4 = .ok (.aload_n 0, 1) := by decide +kernel
theorem dX2_init_5 : decode cX2_init 5 = .ok (.bipush 24, 2) := by decide +kernel
theorem dX2_init_7 : decode cX2_init 7 = .ok (.anewarray 9, 3) := by decide +kernel
theorem dX2_init_10 : decode cX2_init 10 = .ok (.putfield 11, 3) := by decide +kernel
theorem dX2_init_13 : decode cX2_init 13 = .ok (.aload_n 0, 1) := by decide +kernel
theorem dX2_init_14 : decode cX2_init 14 = .ok (.bipush 24, 2) := by decide +kernel
theorem dX2_init_16 : decode cX2_init 16 = .ok (.newarray .int, 2) := by decide +kernel
theorem dX2_init_18 : decode cX2_init 18 = .ok (.putfield 17, 3) := by decide +kernel
theorem dX2_init_21 : decode cX2_init 21 = .ok (.aload_n 0, 1) := by decide +kernel
theorem dX2_init_22 : decode cX2_init 22 = .ok (.iconst 0, 1) := by decide +kernel
theorem dX2_init_23 : decode cX2_init 23 = .ok (.putfield 21, 3) := by decide +kernel
theorem dX2_init_26 : decode cX2_init 26 = .ok (.aload_n 0, 1) := by decide +kernel
theorem dX2_init_27 : decode cX2_init 27 = .ok (.iconst 0, 1) := by decide +kernel
theorem dX2_init_28 : decode cX2_init 28 = .ok (.putfield 25, 3) := by decide +kernel
theorem dX2_init_31 : decode cX2_init 31 = .ok (.aload_n 0, 1) := by decide +kernel
theorem dX2_init_32 : decode cX2_init 32 = .ok (.iconst 1, 1) := by decide +kernel
theorem dX2_init_33 : decode cX2_init 33 = .ok (.putfield 28, 3) := by decide +kernel
theorem dX2_init_36 : decode cX2_init 36 = .ok (.aload_n 0, 1) := by decide +kernel
theorem dX2_init_37 : decode cX2_init 37 = .ok (.bipush 10, 2) := by decide +kernel
theorem dX2_init_39 : decode cX2_init 39 = .ok (.newarray .int, 2) := by decide +kernel
theorem dX2_init_41 : decode cX2_init 41 = .ok (.putfield 31, 3) := by decide +kernel
theorem dX2_init_44 : decode cX2_init 44 = .ok (.aload_n 0, 1) := by decide +kernel
theorem dX2_init_45 : decode cX2_init 45 = .ok (.bipush 10, 2) := by decide +kernel
theorem dX2_init_47 : decode cX2_init 47 = .ok (.newarray .int, 2) := by decide +kernel
theorem dX2_init_49 : decode cX2_init 49 = .ok (.putfield 34, 3) := by decide +kernel
theorem dX2_init_52 : decode cX2_init 52 = .ok (.aload_n 0, 1) := by decide +kernel
theorem dX2_init_53 : decode cX2_init 53 = .ok (.iconst 0, 1) := by decide +kernel
theorem dX2_init_54 : decode cX2_init 54 = .ok (.putfield 37, 3) := by decide +kernel
theorem dX2_init_57 : decode cX2_init 57 = .ok (.aload_n 0, 1) := by decide +kernel
theorem dX2_init_58 : decode cX2_init 58 = .ok (.iconst 0, 1) := by decide +kernel
theorem dX2_init_59 : decode cX2_init 59 = .ok (.putfield 40, 3) := by decide +kernel
theorem dX2_init_62 : decode cX2_init 62 = .ok (.aload_n 0, 1) := by decide +kernel
theorem dX2_init_63 : decode cX2_init 63 = .ok (.iconst 0, 1) := by decide +kernel
theorem dX2_init_64 : decode cX2_init 64 = .ok (.putfield 43, 3) := by decide +kernel
theorem dX2_init_67 : decode cX2_init 67 = .ok (.aload_n 0, 1) := by decide +kernel
theorem dX2_init_68 : decode cX2_init 68 = .ok (.iconst 0, 1) := by decide +kernel
theorem dX2_init_69 : decode cX2_init 69 = .ok (.putfield 46, 3) := by decide +kernel
theorem dX2_init_72 : decode cX2_init 72 = .ok (.aload_n 0, 1) := by decide +kernel
theorem dX2_init_73 : decode cX2_init 73 = .ok (.iconst 0, 1) := by decide +kernel
theorem dX2_init_74 : decode cX2_init 74 = .ok (.putfield 49, 3) := by decide +kernel
theorem dX2_init_77 : decode cX2_init 77 = .ok (.aload_n 0, 1) := by decide +kernel
theorem dX2_init_78 : decode cX2_init 78 = .ok (.aload_n 3, 1) := by decide +kernel
theorem dX2_init_79 : decode cX2_init 79 = .ok (.putfield 52, 3) := by decide +kernel
theorem dX2_init_82 : decode cX2_init 82 = .ok (.aload_n 0, 1) := by decide +kernel
theorem dX2_init_83 : decode cX2_init 83 = .ok (.aload 4, 2) := by decide +kernel
theorem dX2_init_85 : decode cX2_init 85 = .ok (.putfield 56, 3) := by decide +kernel
theorem dX2_init_88 : decode cX2_init 88 = .ok (.iconst 0, 1) := by decide +kernel
theorem dX2_init_89 : decode cX2_init 89 = .ok (.istore 5, 2) := by decide +kernel
theorem dX2_init_91 : decode cX2_init 91 = .ok (.iload 5, 2) := by decide +kernel
theorem dX2_init_93 : decode cX2_init 93 = .ok (.bipush 24, 2) := by decide +kernel
theorem dX2_init_95 : decode cX2_init 95 = .ok (.if_icmp .ge 25, 3) := by decide +kernel
theorem dX2_init_98 : decode cX2_init 98 = .ok (.aload_n 0, 1) := by decide +kernel
theorem dX2_init_99 : decode cX2_init 99 = .ok (.getfield 11, 3) := by decide +kernel
theorem dX2_init_102 : decode cX2_init 102 = .ok (.iload 5, 2) := by decide +kernel
theorem dX2_init_104 : decode cX2_init 104 = .ok (.new 9, 3) := by decide +kernel
theorem dX2_init_107 : decode cX2_init 107 = .ok (.dup, 1) := by decide +kernel
theorem dX2_init_108 : decode cX2_init 108 = .ok (.aload_n 1, 1) := by decide +kernel
theorem dX2_init_109 : decode cX2_init 109 = .ok (.aload_n 2, 1) := by decide +kernel
theorem dX2_init_110 : decode cX2_init 110 = .ok (.invokespecial 60, 3) := by decide +kernel
theorem dX2_init_113 : decode cX2_init 113 = .ok (.aastore, 1) := by decide +kernel
theorem dX2_init_114 : decode cX2_init 114 = .ok (.iinc 5 1, 3) := by decide +kernel
theorem dX2_init_117 : decode cX2_init 117 = .ok (.goto (-26), 3) := by decide +kernel
theorem dX2_init_120 : decode cX2_init 120 = .ok (.return_, 1) := by decide +kernel
theorem dX2_run_0 : decode cX2_run 0 = .ok (.aload_n 0, 1) := by decide +kernel
theorem dX2_run_1 : decode cX2_run 1 = .ok (.iload_n 1, 1) := by decide +kernel
theorem dX2_run_2 : decode cX2_run 2 = .ok (.putfield 28, 3) := by decide +kernel
theorem dX2_run_5 : decode cX2_run 5 = .ok (.aload_n 0, 1) := by decide +kernel
theorem dX2_run_6 : decode cX2_run 6 = .ok (.iconst 0, 1) := by decide +kernel
theorem dX2_run_7 : decode cX2_run 7 = .ok (.putfield 37, 3) := by decide +kernel
theorem dX2_run_10 : decode cX2_run 10 = .ok (.aload_n 0, 1) := by decide +kernel
theorem dX2_run_11 : decode cX2_run 11 = .ok (.iconst 0, 1) := by decide +kernel
theorem dX2_run_12 : decode cX2_run 12 = .ok (.putfield 40, 3) := by decide +kernel
theorem dX2_run_15 : decode cX2_run 15 = .ok (.aload_n 0, 1) := by decide +kernel
theorem dX2_run_16 : decode cX2_run 16 = .ok (.iconst 0, 1) := by decide +kernel
theorem dX2_run_17 : decode cX2_run 17 = .ok (.putfield 43, 3) := by decide +kernel
theorem dX2_run_20 : decode cX2_run 20 = .ok (.aload_n 0, 1) := by decide +kernel
theorem dX2_run_21 : decode cX2_run 21 = .ok (.iconst 0, 1) := by decide +kernel
theorem dX2_run_22 : decode cX2_run 22 = .ok (.putfield 46, 3) := by decide +kernel
theorem dX2_run_25 : decode cX2_run 25 = .ok (.aload_n 0, 1) := by decide +kernel
theorem dX2_run_26 : decode cX2_run 26 = .ok (.iconst 0, 1) := by decide +kernel
theorem dX2_run_27 : decode cX2_run 27 = .ok (.putfield 49, 3) := by decide +kernel
theorem dX2_run_30 : decode cX2_run 30 = .ok (.iconst 0, 1) := by decide +kernel
theorem dX2_run_31 : decode cX2_run 31 = .ok (.istore_n 3, 1) := by decide +kernel
theorem dX2_run_32 : decode cX2_run 32 = .ok (.iload_n 3, 1) := by decide +kernel
theorem dX2_run_33 : decode cX2_run 33 = .ok (.aload_n 0, 1) := by decide +kernel
theorem dX2_run_34 : decode cX2_run 34 = .ok (.getfield 52, 3) := by decide +kernel
theorem dX2_run_37 : decode cX2_run 37 = .ok (.getfield 63, 3) := by decide +kernel
theorem dX2_run_40 : decode cX2_run 40 = .ok (.if_icmp .ge 37, 3) := by decide +kernel
theorem dX2_run_43 : decode cX2_run 43 = .ok (.aload_n 0, 1) := by decide +kernel
theorem dX2_run_44 : decode cX2_run 44 = .ok (.getfield 11, 3) := by decide +kernel
theorem dX2_run_47 : decode cX2_run 47 = .ok (.iload_n 3, 1) := by decide +kernel
theorem dX2_run_48 : decode cX2_run 48 = .ok (.aaload, 1) := by decide +kernel
theorem dX2_run_49 : decode cX2_run 49 = .ok (.aload_n 0, 1) := by decide +kernel
theorem dX2_run_50 : decode cX2_run 50 = .ok (.getfield 52, 3) := by decide +kernel
theorem dX2_run_53 : decode cX2_run 53 = .ok (.getfield 68, 3) := by decide +kernel
theorem dX2_run_56 : decode cX2_run 56 = .ok (.iload_n 3, 1) := by decide +kernel
theorem dX2_run_57 : decode cX2_run 57 = .ok (.iaload, 1) := by decide +kernel
theorem dX2_run_58 : decode cX2_run 58 = .ok (.aload_n 0, 1) := by decide +kernel
theorem dX2_run_59 : decode cX2_run 59 = .ok (.getfield 52, 3) := by decide +kernel
theorem dX2_run_62 : decode cX2_run 62 = .ok (.getfield 71, 3) := by decide +kernel
theorem dX2_run_65 : decode cX2_run 65 = .ok (.iload_n 3, 1) := by decide +kernel
theorem dX2_run_66 : decode cX2_run 66 = .ok (.iaload, 1) := by decide +kernel
theorem dX2_run_67 : decode cX2_run 67 = .ok (.iload_n 2, 1) := by decide +kernel
theorem dX2_run_68 : decode cX2_run 68 = .ok (.invokevirtual 74, 3) := by decide +kernel
theorem dX2_run_71 : decode cX2_run 71 = .ok (.iinc 3 1, 3) := by decide +kernel
theorem dX2_run_74 : decode cX2_run 74 = .ok (.goto (-42), 3) := by decide +kernel
theorem dX2_run_77 : decode cX2_run 77 = .ok (.aload_n 0, 1) := by decide +kernel
theorem dX2_run_78 : decode cX2_run 78 = .ok (.getfield 52, 3) := by decide +kernel
theorem dX2_run_81 : decode cX2_run 81 = .ok (.getfield 63, 3) := by decide +kernel
theorem dX2_run_84 : decode cX2_run 84 = .ok (.ifCond .ne 7, 3) := by decide +kernel
theorem dX2_run_87 : decode cX2_run 87 = .ok (.iconst 1, 1) := by decide +kernel
theorem dX2_run_88 : decode cX2_run 88 = .ok (.goto 4, 3) := by decide +kernel
theorem dX2_run_91 : decode cX2_run 91 = .ok (.iconst 0, 1) := by decide +kernel
theorem dX2_run_92 : decode cX2_run 92 = .ok (.istore_n 3, 1) := by decide +kernel
theorem dX2_run_93 : decode cX2_run 93 = .ok (.iconst 0, 1) := by decide +kernel
theorem dX2_run_94 : decode cX2_run 94 = .ok (.istore 4, 2) := by decide +kernel
theorem dX2_run_96 : decode cX2_run 96 = .ok (.iload 4, 2) := by decide +kernel
theorem dX2_run_98 : decode cX2_run 98 = .ok (.ldc 78, 2) := by decide +kernel
theorem dX2_run_100 : decode cX2_run 100 = .ok (.if_icmp .ge 36, 3) := by decide +kernel
theorem dX2_run_103 : decode cX2_run 103 = .ok (.iload_n 3, 1) := by decide +kernel
theorem dX2_run_104 : decode cX2_run 104 = .ok (.ifCond .ne 32, 3) := by decide +kernel
theorem dX2_run_107 : decode cX2_run 107 = .ok (.aload_n 0, 1) := by decide +kernel
theorem dX2_run_108 : decode cX2_run 108 = .ok (.dup, 1) := by decide +kernel
theorem dX2_run_109 : decode cX2_run 109 = .ok (.getfield 40, 3) := by decide +kernel
theorem dX2_run_112 : decode cX2_run 112 = .ok (.iconst 1, 1) := by decide +kernel
theorem dX2_run_113 : decode cX2_run 113 = .ok (.iadd, 1) := by decide +kernel
theorem dX2_run_114 : decode cX2_run 114 = .ok (.putfield 40, 3) := by decide +kernel
theorem dX2_run_117 : decode cX2_run 117 = .ok (.aload_n 0, 1) := by decide +kernel
theorem dX2_run_118 : decode cX2_run 118 = .ok (.invokevirtual 79, 3) := by decide +kernel
theorem dX2_run_121 : decode cX2_run 121 = .ok (.ifCond .ne 7, 3) := by decide +kernel
theorem dX2_run_124 : decode cX2_run 124 = .ok (.iconst 1, 1) := by decide +kernel
theorem dX2_run_125 : decode cX2_run 125 = .ok (.goto 4, 3) := by decide +kernel
theorem dX2_run_128 : decode cX2_run 128 = .ok (.iconst 0, 1) := by decide +kernel
theorem dX2_run_129 : decode cX2_run 129 = .ok (.istore_n 3, 1) := by decide +kernel
theorem dX2_run_130 : decode cX2_run 130 = .ok (.iinc 4 1, 3) := by decide +kernel
theorem dX2_run_133 : decode cX2_run 133 = .ok (.goto (-37), 3) := by decide +kernel
theorem dX2_run_136 : decode cX2_run 136 = .ok (.return_, 1) := by decide +kernel
theorem dX2_floorNow_0 : decode cX2_floorNow 0 = .ok (.aload_n 0, 1) := by decide +kernel
theorem dX2_floorNow_1 : decode cX2_floorNow 1 = .ok (.getfield 37, 3) := by decide +kernel
theorem dX2_floorNow_4 : decode cX2_floorNow 4 = .ok (.aload_n 0, 1) := by decide +kernel
theorem dX2_floorNow_5 : decode cX2_floorNow 5 = .ok (.getfield 28, 3) := by decide +kernel
theorem dX2_floorNow_8 : decode cX2_floorNow 8 = .ok (.if_icmp .ge 7, 3) := by decide +kernel
theorem dX2_floorNow_11 : decode cX2_floorNow 11 = .ok (.iconst 0, 1) := by decide +kernel
theorem dX2_floorNow_12 : decode cX2_floorNow 12 = .ok (.goto 14, 3) := by decide +kernel
theorem dX2_floorNow_15 : decode cX2_floorNow 15 = .ok (.aload_n 0, 1) := by decide +kernel
theorem dX2_floorNow_16 : decode cX2_floorNow 16 = .ok (.getfield 34, 3) := by decide +kernel
theorem dX2_floorNow_19 : decode cX2_floorNow 19 = .ok (.aload_n 0, 1) := by decide +kernel
theorem dX2_floorNow_20 : decode cX2_floorNow 20 = .ok (.getfield 28, 3) := by decide +kernel
theorem dX2_floorNow_23 : decode cX2_floorNow 23 = .ok (.iconst 1, 1) := by decide +kernel
theorem dX2_floorNow_24 : decode cX2_floorNow 24 = .ok (.isub, 1) := by decide +kernel
theorem dX2_floorNow_25 : decode cX2_floorNow 25 = .ok (.iaload, 1) := by decide +kernel
theorem dX2_floorNow_26 : decode cX2_floorNow 26 = .ok (.ireturn, 1) := by decide +kernel
theorem dX2_takeTurn_0 : decode cX2_takeTurn 0 = .ok (.aload_n 0, 1) := by decide +kernel
theorem dX2_takeTurn_1 : decode cX2_takeTurn 1 = .ok (.invokevirtual 83, 3) := by decide +kernel
theorem dX2_takeTurn_4 : decode cX2_takeTurn 4 = .ok (.aload_n 0, 1) := by decide +kernel
theorem dX2_takeTurn_5 : decode cX2_takeTurn 5 = .ok (.invokevirtual 86, 3) := by decide +kernel
theorem dX2_takeTurn_8 : decode cX2_takeTurn 8 = .ok (.istore_n 1, 1) := by decide +kernel
theorem dX2_takeTurn_9 : decode cX2_takeTurn 9 = .ok (.iload_n 1, 1) := by decide +kernel
theorem dX2_takeTurn_10 : decode cX2_takeTurn 10 = .ok (.iconst (-1), 1) := by decide +kernel
theorem dX2_takeTurn_11 : decode cX2_takeTurn 11 = .ok (.if_icmp .ne 5, 3) := by decide +kernel
theorem dX2_takeTurn_14 : decode cX2_takeTurn 14 = .ok (.iconst 0, 1) := by decide +kernel
theorem dX2_takeTurn_15 : decode cX2_takeTurn 15 = .ok (.ireturn, 1) := by decide +kernel
theorem dX2_takeTurn_16 : decode cX2_takeTurn 16 = .ok (.aload_n 0, 1) := by decide +kernel
theorem dX2_takeTurn_17 : decode cX2_takeTurn 17 = .ok (.getfield 11, 3) := by decide +kernel
theorem dX2_takeTurn_20 : decode cX2_takeTurn 20 = .ok (.aload_n 0, 1) := by decide +kernel
theorem dX2_takeTurn_21 : decode cX2_takeTurn 21 = .ok (.getfield 17, 3) := by decide +kernel
theorem dX2_takeTurn_24 : decode cX2_takeTurn 24 = .ok (.iload_n 1, 1) := by decide +kernel
theorem dX2_takeTurn_25 : decode cX2_takeTurn 25 = .ok (.iaload, 1) := by decide +kernel
theorem dX2_takeTurn_26 : decode cX2_takeTurn 26 = .ok (.aaload, 1) := by decide +kernel
theorem dX2_takeTurn_27 : decode cX2_takeTurn 27 = .ok (.getfield 90, 3) := by decide +kernel
theorem dX2_takeTurn_30 : decode cX2_takeTurn 30 = .ok (.istore_n 2, 1) := by decide +kernel
theorem dX2_takeTurn_31 : decode cX2_takeTurn 31 = .ok (.aload_n 0, 1) := by decide +kernel
theorem dX2_takeTurn_32 : decode cX2_takeTurn 32 = .ok (.iload_n 2, 1) := by decide +kernel
theorem dX2_takeTurn_33 : decode cX2_takeTurn 33 = .ok (.invokevirtual 93, 3) := by decide +kernel
theorem dX2_takeTurn_36 : decode cX2_takeTurn 36 = .ok (.aload_n 0, 1) := by decide +kernel
theorem dX2_takeTurn_37 : decode cX2_takeTurn 37 = .ok (.iload_n 2, 1) := by decide +kernel
theorem dX2_takeTurn_38 : decode cX2_takeTurn 38 = .ok (.invokevirtual 97, 3) := by decide +kernel
theorem dX2_takeTurn_41 : decode cX2_takeTurn 41 = .ok (.aload_n 0, 1) := by decide +kernel
theorem dX2_takeTurn_42 : decode cX2_takeTurn 42 = .ok (.invokevirtual 101, 3) := by decide +kernel
theorem dX2_takeTurn_45 : decode cX2_takeTurn 45 = .ok (.if_icmp .gt 11, 3) := by decide +kernel
theorem dX2_takeTurn_48 : decode cX2_takeTurn 48 = .ok (.aload_n 0, 1) := by decide +kernel
theorem dX2_takeTurn_49 : decode cX2_takeTurn 49 = .ok (.iload_n 2, 1) := by decide +kernel
theorem dX2_takeTurn_50 : decode cX2_takeTurn 50 = .ok (.invokevirtual 104, 3) := by decide +kernel
theorem dX2_takeTurn_53 : decode cX2_takeTurn 53 = .ok (.goto 67, 3) := by decide +kernel
theorem dX2_takeTurn_56 : decode cX2_takeTurn 56 = .ok (.aload_n 0, 1) := by decide +kernel
theorem dX2_takeTurn_57 : decode cX2_takeTurn 57 = .ok (.getfield 11, 3) := by decide +kernel
theorem dX2_takeTurn_60 : decode cX2_takeTurn 60 = .ok (.aload_n 0, 1) := by decide +kernel
theorem dX2_takeTurn_61 : decode cX2_takeTurn 61 = .ok (.getfield 17, 3) := by decide +kernel
theorem dX2_takeTurn_64 : decode cX2_takeTurn 64 = .ok (.iconst 0, 1) := by decide +kernel
theorem dX2_takeTurn_65 : decode cX2_takeTurn 65 = .ok (.iaload, 1) := by decide +kernel
theorem dX2_takeTurn_66 : decode cX2_takeTurn 66 = .ok (.aaload, 1) := by decide +kernel
theorem dX2_takeTurn_67 : decode cX2_takeTurn 67 = .ok (.getfield 90, 3) := by decide +kernel
theorem dX2_takeTurn_70 : decode cX2_takeTurn 70 = .ok (.iload_n 2, 1) := by decide +kernel
theorem dX2_takeTurn_71 : decode cX2_takeTurn 71 = .ok (.if_icmp .ge 31, 3) := by decide +kernel
theorem dX2_takeTurn_74 : decode cX2_takeTurn 74 = .ok (.aload_n 0, 1) := by decide +kernel
theorem dX2_takeTurn_75 : decode cX2_takeTurn 75 = .ok (.dup, 1) := by decide +kernel
theorem dX2_takeTurn_76 : decode cX2_takeTurn 76 = .ok (.getfield 43, 3) := by decide +kernel
theorem dX2_takeTurn_79 : decode cX2_takeTurn 79 = .ok (.iconst 1, 1) := by decide +kernel
theorem dX2_takeTurn_80 : decode cX2_takeTurn 80 = .ok (.iadd, 1) := by decide +kernel
theorem dX2_takeTurn_81 : decode cX2_takeTurn 81 = .ok (.putfield 43, 3) := by decide +kernel
theorem dX2_takeTurn_84 : decode cX2_takeTurn 84 = .ok (.aload_n 0, 1) := by decide +kernel
theorem dX2_takeTurn_85 : decode cX2_takeTurn 85 = .ok (.getfield 11, 3) := by decide +kernel
theorem dX2_takeTurn_88 : decode cX2_takeTurn 88 = .ok (.aload_n 0, 1) := by decide +kernel
theorem dX2_takeTurn_89 : decode cX2_takeTurn 89 = .ok (.getfield 17, 3) := by decide +kernel
theorem dX2_takeTurn_92 : decode cX2_takeTurn 92 = .ok (.iconst 0, 1) := by decide +kernel
theorem dX2_takeTurn_93 : decode cX2_takeTurn 93 = .ok (.iaload, 1) := by decide +kernel
theorem dX2_takeTurn_94 : decode cX2_takeTurn 94 = .ok (.aaload, 1) := by decide +kernel
theorem dX2_takeTurn_95 : decode cX2_takeTurn 95 = .ok (.iload_n 2, 1) := by decide +kernel
theorem dX2_takeTurn_96 : decode cX2_takeTurn 96 = .ok (.invokevirtual 107, 3) := by decide +kernel
theorem dX2_takeTurn_99 : decode cX2_takeTurn 99 = .ok (.goto 21, 3) := by decide +kernel
theorem dX2_takeTurn_102 : decode cX2_takeTurn 102 = .ok (.aload_n 0, 1) := by decide +kernel
theorem dX2_takeTurn_103 : decode cX2_takeTurn 103 = .ok (.iload_n 2, 1) := by decide +kernel
theorem dX2_takeTurn_104 : decode cX2_takeTurn 104 = .ok (.invokevirtual 110, 3) := by decide +kernel
theorem dX2_takeTurn_107 : decode cX2_takeTurn 107 = .ok (.ifCond .eq 8, 3) := by decide +kernel
theorem dX2_takeTurn_110 : decode cX2_takeTurn 110 = .ok (.aload_n 0, 1) := by decide +kernel
theorem dX2_takeTurn_111 : decode cX2_takeTurn 111 = .ok (.iload_n 2, 1) := by decide +kernel
theorem dX2_takeTurn_112 : decode cX2_takeTurn 112 = .ok (.invokevirtual 114, 3) := by decide +kernel
theorem dX2_takeTurn_115 : decode cX2_takeTurn 115 = .ok (.aload_n 0, 1) := by decide +kernel
theorem dX2_takeTurn_116 : decode cX2_takeTurn 116 = .ok (.iload_n 2, 1) := by decide +kernel
theorem dX2_takeTurn_117 : decode cX2_takeTurn 117 = .ok (.invokevirtual 117, 3) := by decide +kernel
theorem dX2_takeTurn_120 : decode cX2_takeTurn 120 = .ok (.iconst 1, 1) := by decide +kernel
theorem dX2_takeTurn_121 : decode cX2_takeTurn 121 = .ok (.ireturn, 1) := by decide +kernel
theorem dX2_lineUp_0 : decode cX2_lineUp 0 = .ok (.aload_n 0, 1) := by decide +kernel
theorem dX2_lineUp_1 : decode cX2_lineUp 1 = .ok (.iconst 0, 1) := by decide +kernel
theorem dX2_lineUp_2 : decode cX2_lineUp 2 = .ok (.putfield 21, 3) := by decide +kernel
theorem dX2_lineUp_5 : decode cX2_lineUp 5 = .ok (.iconst 0, 1) := by decide +kernel
theorem dX2_lineUp_6 : decode cX2_lineUp 6 = .ok (.istore_n 1, 1) := by decide +kernel
theorem dX2_lineUp_7 : decode cX2_lineUp 7 = .ok (.iload_n 1, 1) := by decide +kernel
theorem dX2_lineUp_8 : decode cX2_lineUp 8 = .ok (.aload_n 0, 1) := by decide +kernel
theorem dX2_lineUp_9 : decode cX2_lineUp 9 = .ok (.getfield 52, 3) := by decide +kernel
theorem dX2_lineUp_12 : decode cX2_lineUp 12 = .ok (.getfield 63, 3) := by decide +kernel
theorem dX2_lineUp_15 : decode cX2_lineUp 15 = .ok (.if_icmp .ge 98, 3) := by decide +kernel
theorem dX2_lineUp_18 : decode cX2_lineUp 18 = .ok (.aload_n 0, 1) := by decide +kernel
theorem dX2_lineUp_19 : decode cX2_lineUp 19 = .ok (.getfield 11, 3) := by decide +kernel
theorem dX2_lineUp_22 : decode cX2_lineUp 22 = .ok (.iload_n 1, 1) := by decide +kernel
theorem dX2_lineUp_23 : decode cX2_lineUp 23 = .ok (.aaload, 1) := by decide +kernel
theorem dX2_lineUp_24 : decode cX2_lineUp 24 = .ok (.getfield 120, 3) := by decide +kernel
theorem dX2_lineUp_27 : decode cX2_lineUp 27 = .ok (.ifCond .eq 6, 3) := by decide +kernel
theorem dX2_lineUp_30 : decode cX2_lineUp 30 = .ok (.goto 77, 3) := by decide +kernel
theorem dX2_lineUp_33 : decode cX2_lineUp 33 = .ok (.aload_n 0, 1) := by decide +kernel
theorem dX2_lineUp_34 : decode cX2_lineUp 34 = .ok (.getfield 21, 3) := by decide +kernel
theorem dX2_lineUp_37 : decode cX2_lineUp 37 = .ok (.istore_n 2, 1) := by decide +kernel
theorem dX2_lineUp_38 : decode cX2_lineUp 38 = .ok (.iload_n 2, 1) := by decide +kernel
theorem dX2_lineUp_39 : decode cX2_lineUp 39 = .ok (.ifCond .le 51, 3) := by decide +kernel
theorem dX2_lineUp_42 : decode cX2_lineUp 42 = .ok (.aload_n 0, 1) := by decide +kernel
theorem dX2_lineUp_43 : decode cX2_lineUp 43 = .ok (.getfield 11, 3) := by decide +kernel
theorem dX2_lineUp_46 : decode cX2_lineUp 46 = .ok (.aload_n 0, 1) := by decide +kernel
theorem dX2_lineUp_47 : decode cX2_lineUp 47 = .ok (.getfield 17, 3) := by decide +kernel
theorem dX2_lineUp_50 : decode cX2_lineUp 50 = .ok (.iload_n 2, 1) := by decide +kernel
theorem dX2_lineUp_51 : decode cX2_lineUp 51 = .ok (.iconst 1, 1) := by decide +kernel
theorem dX2_lineUp_52 : decode cX2_lineUp 52 = .ok (.isub, 1) := by decide +kernel
theorem dX2_lineUp_53 : decode cX2_lineUp 53 = .ok (.iaload, 1) := by decide +kernel
theorem dX2_lineUp_54 : decode cX2_lineUp 54 = .ok (.aaload, 1) := by decide +kernel
theorem dX2_lineUp_55 : decode cX2_lineUp 55 = .ok (.getfield 90, 3) := by decide +kernel
theorem dX2_lineUp_58 : decode cX2_lineUp 58 = .ok (.aload_n 0, 1) := by decide +kernel
theorem dX2_lineUp_59 : decode cX2_lineUp 59 = .ok (.getfield 11, 3) := by decide +kernel
theorem dX2_lineUp_62 : decode cX2_lineUp 62 = .ok (.iload_n 1, 1) := by decide +kernel
theorem dX2_lineUp_63 : decode cX2_lineUp 63 = .ok (.aaload, 1) := by decide +kernel
theorem dX2_lineUp_64 : decode cX2_lineUp 64 = .ok (.getfield 90, 3) := by decide +kernel
theorem dX2_lineUp_67 : decode cX2_lineUp 67 = .ok (.if_icmp .le 23, 3) := by decide +kernel
theorem dX2_lineUp_70 : decode cX2_lineUp 70 = .ok (.aload_n 0, 1) := by decide +kernel
theorem dX2_lineUp_71 : decode cX2_lineUp 71 = .ok (.getfield 17, 3) := by decide +kernel
theorem dX2_lineUp_74 : decode cX2_lineUp 74 = .ok (.iload_n 2, 1) := by decide +kernel
theorem dX2_lineUp_75 : decode cX2_lineUp 75 = .ok (.aload_n 0, 1) := by decide +kernel
theorem dX2_lineUp_76 : decode cX2_lineUp 76 = .ok (.getfield 17, 3) := by decide +kernel
theorem dX2_lineUp_79 : decode cX2_lineUp 79 = .ok (.iload_n 2, 1) := by decide +kernel
theorem dX2_lineUp_80 : decode cX2_lineUp 80 = .ok (.iconst 1, 1) := by decide +kernel
theorem dX2_lineUp_81 : decode cX2_lineUp 81 = .ok (.isub, 1) := by decide +kernel
theorem dX2_lineUp_82 : decode cX2_lineUp 82 = .ok (.iaload, 1) := by decide +kernel
theorem dX2_lineUp_83 : decode cX2_lineUp 83 = .ok (.iastore, 1) := by decide +kernel
theorem dX2_lineUp_84 : decode cX2_lineUp 84 = .ok (.iinc 2 (-1), 3) := by decide +kernel
theorem dX2_lineUp_87 : decode cX2_lineUp 87 = .ok (.goto (-49), 3) := by decide +kernel
theorem dX2_lineUp_90 : decode cX2_lineUp 90 = .ok (.aload_n 0, 1) := by decide +kernel
theorem dX2_lineUp_91 : decode cX2_lineUp 91 = .ok (.getfield 17, 3) := by decide +kernel
theorem dX2_lineUp_94 : decode cX2_lineUp 94 = .ok (.iload_n 2, 1) := by decide +kernel
theorem dX2_lineUp_95 : decode cX2_lineUp 95 = .ok (.iload_n 1, 1) := by decide +kernel
theorem dX2_lineUp_96 : decode cX2_lineUp 96 = .ok (.iastore, 1) := by decide +kernel
theorem dX2_lineUp_97 : decode cX2_lineUp 97 = .ok (.aload_n 0, 1) := by decide +kernel
theorem dX2_lineUp_98 : decode cX2_lineUp 98 = .ok (.dup, 1) := by decide +kernel
theorem dX2_lineUp_99 : decode cX2_lineUp 99 = .ok (.getfield 21, 3) := by decide +kernel
theorem dX2_lineUp_102 : decode cX2_lineUp 102 = .ok (.iconst 1, 1) := by decide +kernel
theorem dX2_lineUp_103 : decode cX2_lineUp 103 = .ok (.iadd, 1) := by decide +kernel
theorem dX2_lineUp_104 : decode cX2_lineUp 104 = .ok (.putfield 21, 3) := by decide +kernel
theorem dX2_lineUp_107 : decode cX2_lineUp 107 = .ok (.iinc 1 1, 3) := by decide +kernel
theorem dX2_lineUp_110 : decode cX2_lineUp 110 = .ok (.goto (-103), 3) := by decide +kernel
theorem dX2_lineUp_113 : decode cX2_lineUp 113 = .ok (.return_, 1) := by decide +kernel
theorem dX2_findPivot_0 : decode cX2_findPivot 0 = .ok (.aload_n 0, 1) := by decide +kernel
theorem dX2_findPivot_1 : decode cX2_findPivot 1 = .ok (.getfield 52, 3) := by decide +kernel
theorem dX2_findPivot_4 : decode cX2_findPivot 4 = .ok (.invokevirtual 124, 3) := by decide +kernel
theorem dX2_findPivot_7 : decode cX2_findPivot 7 = .ok (.istore_n 1, 1) := by decide +kernel
theorem dX2_findPivot_8 : decode cX2_findPivot 8 = .ok (.iconst 0, 1) := by decide +kernel
theorem dX2_findPivot_9 : decode cX2_findPivot 9 = .ok (.istore_n 2, 1) := by decide +kernel
theorem dX2_findPivot_10 : decode cX2_findPivot 10 = .ok (.iload_n 2, 1) := by decide +kernel
theorem dX2_findPivot_11 : decode cX2_findPivot 11 = .ok (.aload_n 0, 1) := by decide +kernel
theorem dX2_findPivot_12 : decode cX2_findPivot 12 = .ok (.getfield 21, 3) := by decide +kernel
theorem dX2_findPivot_15 : decode cX2_findPivot 15 = .ok (.if_icmp .ge 36, 3) := by decide +kernel
theorem dX2_findPivot_18 : decode cX2_findPivot 18 = .ok (.iload_n 1, 1) := by decide +kernel
theorem dX2_findPivot_19 : decode cX2_findPivot 19 = .ok (.aload_n 0, 1) := by decide +kernel
theorem dX2_findPivot_20 : decode cX2_findPivot 20 = .ok (.getfield 11, 3) := by decide +kernel
theorem dX2_findPivot_23 : decode cX2_findPivot 23 = .ok (.aload_n 0, 1) := by decide +kernel
theorem dX2_findPivot_24 : decode cX2_findPivot 24 = .ok (.getfield 17, 3) := by decide +kernel
theorem dX2_findPivot_27 : decode cX2_findPivot 27 = .ok (.iload_n 2, 1) := by decide +kernel
theorem dX2_findPivot_28 : decode cX2_findPivot 28 = .ok (.iaload, 1) := by decide +kernel
theorem dX2_findPivot_29 : decode cX2_findPivot 29 = .ok (.aaload, 1) := by decide +kernel
theorem dX2_findPivot_30 : decode cX2_findPivot 30 = .ok (.getfield 127, 3) := by decide +kernel
theorem dX2_findPivot_33 : decode cX2_findPivot 33 = .ok (.iadd, 1) := by decide +kernel
theorem dX2_findPivot_34 : decode cX2_findPivot 34 = .ok (.istore_n 1, 1) := by decide +kernel
theorem dX2_findPivot_35 : decode cX2_findPivot 35 = .ok (.iload_n 1, 1) := by decide +kernel
theorem dX2_findPivot_36 : decode cX2_findPivot 36 = .ok (.aload_n 0, 1) := by decide +kernel
theorem dX2_findPivot_37 : decode cX2_findPivot 37 = .ok (.invokevirtual 101, 3) := by decide +kernel
theorem dX2_findPivot_40 : decode cX2_findPivot 40 = .ok (.if_icmp .le 5, 3) := by decide +kernel
theorem dX2_findPivot_43 : decode cX2_findPivot 43 = .ok (.iload_n 2, 1) := by decide +kernel
theorem dX2_findPivot_44 : decode cX2_findPivot 44 = .ok (.ireturn, 1) := by decide +kernel
theorem dX2_findPivot_45 : decode cX2_findPivot 45 = .ok (.iinc 2 1, 3) := by decide +kernel
theorem dX2_findPivot_48 : decode cX2_findPivot 48 = .ok (.goto (-38), 3) := by decide +kernel
theorem dX2_findPivot_51 : decode cX2_findPivot 51 = .ok (.iconst (-1), 1) := by decide +kernel
theorem dX2_findPivot_52 : decode cX2_findPivot 52 = .ok (.ireturn, 1) := by decide +kernel
theorem dX2_countHere_0 : decode cX2_countHere 0 = .ok (.aload_n 0, 1) := by decide +kernel
theorem dX2_countHere_1 : decode cX2_countHere 1 = .ok (.iconst 0, 1) := by decide +kernel
theorem dX2_countHere_2 : decode cX2_countHere 2 = .ok (.putfield 25, 3) := by decide +kernel
theorem dX2_countHere_5 : decode cX2_countHere 5 = .ok (.aload_n 0, 1) := by decide +kernel
theorem dX2_countHere_6 : decode cX2_countHere 6 = .ok (.getfield 25, 3) := by decide +kernel
theorem dX2_countHere_9 : decode cX2_countHere 9 = .ok (.aload_n 0, 1) := by decide +kernel
theorem dX2_countHere_10 : decode cX2_countHere 10 = .ok (.getfield 21, 3) := by decide +kernel
theorem dX2_countHere_13 : decode cX2_countHere 13 = .ok (.if_icmp .ge 37, 3) := by decide +kernel
theorem dX2_countHere_16 : decode cX2_countHere 16 = .ok (.aload_n 0, 1) := by decide +kernel
theorem dX2_countHere_17 : decode cX2_countHere 17 = .ok (.getfield 11, 3) := by decide +kernel
theorem dX2_countHere_20 : decode cX2_countHere 20 = .ok (.aload_n 0, 1) := by decide +kernel
theorem dX2_countHere_21 : decode cX2_countHere 21 = .ok (.getfield 17, 3) := by decide +kernel
theorem dX2_countHere_24 : decode cX2_countHere 24 = .ok (.aload_n 0, 1) := by decide +kernel
theorem dX2_countHere_25 : decode cX2_countHere 25 = .ok (.getfield 25, 3) := by decide +kernel
theorem dX2_countHere_28 : decode cX2_countHere 28 = .ok (.iaload, 1) := by decide +kernel
theorem dX2_countHere_29 : decode cX2_countHere 29 = .ok (.aaload, 1) := by decide +kernel
theorem dX2_countHere_30 : decode cX2_countHere 30 = .ok (.getfield 90, 3) := by decide +kernel
theorem dX2_countHere_33 : decode cX2_countHere 33 = .ok (.iload_n 1, 1) := by decide +kernel
theorem dX2_countHere_34 : decode cX2_countHere 34 = .ok (.if_icmp .gt 16, 3) := by decide +kernel
theorem dX2_countHere_37 : decode cX2_countHere 37 = .ok (.aload_n 0, 1) := by decide +kernel
theorem dX2_countHere_38 : decode cX2_countHere 38 = .ok (.dup, 1) := by decide +kernel
theorem dX2_countHere_39 : decode cX2_countHere 39 = .ok (.getfield 25, 3) := by decide +kernel
theorem dX2_countHere_42 : decode cX2_countHere 42 = .ok (.iconst 1, 1) := by decide +kernel
theorem dX2_countHere_43 : decode cX2_countHere 43 = .ok (.iadd, 1) := by decide +kernel
theorem dX2_countHere_44 : decode cX2_countHere 44 = .ok (.putfield 25, 3) := by decide +kernel
theorem dX2_countHere_47 : decode cX2_countHere 47 = .ok (.goto (-42), 3) := by decide +kernel
theorem dX2_countHere_50 : decode cX2_countHere 50 = .ok (.return_, 1) := by decide +kernel
theorem dX2_boundHere_0 : decode cX2_boundHere 0 = .ok (.aload_n 0, 1) := by decide +kernel
theorem dX2_boundHere_1 : decode cX2_boundHere 1 = .ok (.getfield 52, 3) := by decide +kernel
theorem dX2_boundHere_4 : decode cX2_boundHere 4 = .ok (.invokevirtual 124, 3) := by decide +kernel
theorem dX2_boundHere_7 : decode cX2_boundHere 7 = .ok (.istore_n 2, 1) := by decide +kernel
theorem dX2_boundHere_8 : decode cX2_boundHere 8 = .ok (.iconst 0, 1) := by decide +kernel
theorem dX2_boundHere_9 : decode cX2_boundHere 9 = .ok (.istore_n 3, 1) := by decide +kernel
theorem dX2_boundHere_10 : decode cX2_boundHere 10 = .ok (.iload_n 3, 1) := by decide +kernel
theorem dX2_boundHere_11 : decode cX2_boundHere 11 = .ok (.aload_n 0, 1) := by decide +kernel
theorem dX2_boundHere_12 : decode cX2_boundHere 12 = .ok (.getfield 25, 3) := by decide +kernel
theorem dX2_boundHere_15 : decode cX2_boundHere 15 = .ok (.if_icmp .ge 27, 3) := by decide +kernel
theorem dX2_boundHere_18 : decode cX2_boundHere 18 = .ok (.iload_n 2, 1) := by decide +kernel
theorem dX2_boundHere_19 : decode cX2_boundHere 19 = .ok (.aload_n 0, 1) := by decide +kernel
theorem dX2_boundHere_20 : decode cX2_boundHere 20 = .ok (.getfield 11, 3) := by decide +kernel
theorem dX2_boundHere_23 : decode cX2_boundHere 23 = .ok (.aload_n 0, 1) := by decide +kernel
theorem dX2_boundHere_24 : decode cX2_boundHere 24 = .ok (.getfield 17, 3) := by decide +kernel
theorem dX2_boundHere_27 : decode cX2_boundHere 27 = .ok (.iload_n 3, 1) := by decide +kernel
theorem dX2_boundHere_28 : decode cX2_boundHere 28 = .ok (.iaload, 1) := by decide +kernel
theorem dX2_boundHere_29 : decode cX2_boundHere 29 = .ok (.aaload, 1) := by decide +kernel
theorem dX2_boundHere_30 : decode cX2_boundHere 30 = .ok (.iload_n 1, 1) := by decide +kernel
theorem dX2_boundHere_31 : decode cX2_boundHere 31 = .ok (.invokevirtual 130, 3) := by decide +kernel
theorem dX2_boundHere_34 : decode cX2_boundHere 34 = .ok (.iadd, 1) := by decide +kernel
theorem dX2_boundHere_35 : decode cX2_boundHere 35 = .ok (.istore_n 2, 1) := by decide +kernel
theorem dX2_boundHere_36 : decode cX2_boundHere 36 = .ok (.iinc 3 1, 3) := by decide +kernel
theorem dX2_boundHere_39 : decode cX2_boundHere 39 = .ok (.goto (-29), 3) := by decide +kernel
theorem dX2_boundHere_42 : decode cX2_boundHere 42 = .ok (.iload_n 2, 1) := by decide +kernel
theorem dX2_boundHere_43 : decode cX2_boundHere 43 = .ok (.ireturn, 1) := by decide +kernel
theorem dX2_skip_0 : decode cX2_skip 0 = .ok (.aload_n 0, 1) := by decide +kernel
theorem dX2_skip_1 : decode cX2_skip 1 = .ok (.dup, 1) := by decide +kernel
theorem dX2_skip_2 : decode cX2_skip 2 = .ok (.getfield 46, 3) := by decide +kernel
theorem dX2_skip_5 : decode cX2_skip 5 = .ok (.iconst 1, 1) := by decide +kernel
theorem dX2_skip_6 : decode cX2_skip 6 = .ok (.iadd, 1) := by decide +kernel
theorem dX2_skip_7 : decode cX2_skip 7 = .ok (.putfield 46, 3) := by decide +kernel
theorem dX2_skip_10 : decode cX2_skip 10 = .ok (.aload_n 0, 1) := by decide +kernel
theorem dX2_skip_11 : decode cX2_skip 11 = .ok (.getfield 25, 3) := by decide +kernel
theorem dX2_skip_14 : decode cX2_skip 14 = .ok (.aload_n 0, 1) := by decide +kernel
theorem dX2_skip_15 : decode cX2_skip 15 = .ok (.getfield 21, 3) := by decide +kernel
theorem dX2_skip_18 : decode cX2_skip 18 = .ok (.if_icmp .ge 23, 3) := by decide +kernel
theorem dX2_skip_21 : decode cX2_skip 21 = .ok (.aload_n 0, 1) := by decide +kernel
theorem dX2_skip_22 : decode cX2_skip 22 = .ok (.getfield 11, 3) := by decide +kernel
theorem dX2_skip_25 : decode cX2_skip 25 = .ok (.aload_n 0, 1) := by decide +kernel
theorem dX2_skip_26 : decode cX2_skip 26 = .ok (.getfield 17, 3) := by decide +kernel
theorem dX2_skip_29 : decode cX2_skip 29 = .ok (.aload_n 0, 1) := by decide +kernel
theorem dX2_skip_30 : decode cX2_skip 30 = .ok (.getfield 25, 3) := by decide +kernel
theorem dX2_skip_33 : decode cX2_skip 33 = .ok (.iaload, 1) := by decide +kernel
theorem dX2_skip_34 : decode cX2_skip 34 = .ok (.aaload, 1) := by decide +kernel
theorem dX2_skip_35 : decode cX2_skip 35 = .ok (.getfield 90, 3) := by decide +kernel
theorem dX2_skip_38 : decode cX2_skip 38 = .ok (.goto 5, 3) := by decide +kernel
theorem dX2_skip_41 : decode cX2_skip 41 = .ok (.bipush 64, 2) := by decide +kernel
theorem dX2_skip_43 : decode cX2_skip 43 = .ok (.istore_n 2, 1) := by decide +kernel
theorem dX2_skip_44 : decode cX2_skip 44 = .ok (.iconst 0, 1) := by decide +kernel
theorem dX2_skip_45 : decode cX2_skip 45 = .ok (.istore_n 3, 1) := by decide +kernel
theorem dX2_skip_46 : decode cX2_skip 46 = .ok (.iload_n 3, 1) := by decide +kernel
theorem dX2_skip_47 : decode cX2_skip 47 = .ok (.aload_n 0, 1) := by decide +kernel
theorem dX2_skip_48 : decode cX2_skip 48 = .ok (.getfield 25, 3) := by decide +kernel
theorem dX2_skip_51 : decode cX2_skip 51 = .ok (.if_icmp .ge 29, 3) := by decide +kernel
theorem dX2_skip_54 : decode cX2_skip 54 = .ok (.iload_n 2, 1) := by decide +kernel
theorem dX2_skip_55 : decode cX2_skip 55 = .ok (.aload_n 0, 1) := by decide +kernel
theorem dX2_skip_56 : decode cX2_skip 56 = .ok (.getfield 11, 3) := by decide +kernel
theorem dX2_skip_59 : decode cX2_skip 59 = .ok (.aload_n 0, 1) := by decide +kernel
theorem dX2_skip_60 : decode cX2_skip 60 = .ok (.getfield 17, 3) := by decide +kernel
theorem dX2_skip_63 : decode cX2_skip 63 = .ok (.iload_n 3, 1) := by decide +kernel
theorem dX2_skip_64 : decode cX2_skip 64 = .ok (.iaload, 1) := by decide +kernel
theorem dX2_skip_65 : decode cX2_skip 65 = .ok (.aaload, 1) := by decide +kernel
theorem dX2_skip_66 : decode cX2_skip 66 = .ok (.iload_n 1, 1) := by decide +kernel
theorem dX2_skip_67 : decode cX2_skip 67 = .ok (.invokevirtual 133, 3) := by decide +kernel
theorem dX2_skip_70 : decode cX2_skip 70 = .ok (.invokestatic 136, 3) := by decide +kernel
theorem dX2_skip_73 : decode cX2_skip 73 = .ok (.istore_n 2, 1) := by decide +kernel
theorem dX2_skip_74 : decode cX2_skip 74 = .ok (.iinc 3 1, 3) := by decide +kernel
theorem dX2_skip_77 : decode cX2_skip 77 = .ok (.goto (-31), 3) := by decide +kernel
theorem dX2_skip_80 : decode cX2_skip 80 = .ok (.iconst 0, 1) := by decide +kernel
theorem dX2_skip_81 : decode cX2_skip 81 = .ok (.istore_n 3, 1) := by decide +kernel
theorem dX2_skip_82 : decode cX2_skip 82 = .ok (.iload_n 3, 1) := by decide +kernel
theorem dX2_skip_83 : decode cX2_skip 83 = .ok (.aload_n 0, 1) := by decide +kernel
theorem dX2_skip_84 : decode cX2_skip 84 = .ok (.getfield 25, 3) := by decide +kernel
theorem dX2_skip_87 : decode cX2_skip 87 = .ok (.if_icmp .ge 24, 3) := by decide +kernel
theorem dX2_skip_90 : decode cX2_skip 90 = .ok (.aload_n 0, 1) := by decide +kernel
theorem dX2_skip_91 : decode cX2_skip 91 = .ok (.getfield 11, 3) := by decide +kernel
theorem dX2_skip_94 : decode cX2_skip 94 = .ok (.aload_n 0, 1) := by decide +kernel
theorem dX2_skip_95 : decode cX2_skip 95 = .ok (.getfield 17, 3) := by decide +kernel
theorem dX2_skip_98 : decode cX2_skip 98 = .ok (.iload_n 3, 1) := by decide +kernel
theorem dX2_skip_99 : decode cX2_skip 99 = .ok (.iaload, 1) := by decide +kernel
theorem dX2_skip_100 : decode cX2_skip 100 = .ok (.aaload, 1) := by decide +kernel
theorem dX2_skip_101 : decode cX2_skip 101 = .ok (.iload_n 2, 1) := by decide +kernel
theorem dX2_skip_102 : decode cX2_skip 102 = .ok (.invokevirtual 142, 3) := by decide +kernel
theorem dX2_skip_105 : decode cX2_skip 105 = .ok (.iinc 3 1, 3) := by decide +kernel
theorem dX2_skip_108 : decode cX2_skip 108 = .ok (.goto (-26), 3) := by decide +kernel
theorem dX2_skip_111 : decode cX2_skip 111 = .ok (.return_, 1) := by decide +kernel
theorem dX2_seekAll_0 : decode cX2_seekAll 0 = .ok (.iconst 0, 1) := by decide +kernel
theorem dX2_seekAll_1 : decode cX2_seekAll 1 = .ok (.istore_n 2, 1) := by decide +kernel
theorem dX2_seekAll_2 : decode cX2_seekAll 2 = .ok (.iconst 0, 1) := by decide +kernel
theorem dX2_seekAll_3 : decode cX2_seekAll 3 = .ok (.istore_n 3, 1) := by decide +kernel
theorem dX2_seekAll_4 : decode cX2_seekAll 4 = .ok (.iload_n 3, 1) := by decide +kernel
theorem dX2_seekAll_5 : decode cX2_seekAll 5 = .ok (.aload_n 0, 1) := by decide +kernel
theorem dX2_seekAll_6 : decode cX2_seekAll 6 = .ok (.getfield 25, 3) := by decide +kernel
theorem dX2_seekAll_9 : decode cX2_seekAll 9 = .ok (.if_icmp .ge 57, 3) := by decide +kernel
theorem dX2_seekAll_12 : decode cX2_seekAll 12 = .ok (.aload_n 0, 1) := by decide +kernel
theorem dX2_seekAll_13 : decode cX2_seekAll 13 = .ok (.getfield 11, 3) := by decide +kernel
theorem dX2_seekAll_16 : decode cX2_seekAll 16 = .ok (.aload_n 0, 1) := by decide +kernel
theorem dX2_seekAll_17 : decode cX2_seekAll 17 = .ok (.getfield 17, 3) := by decide +kernel
theorem dX2_seekAll_20 : decode cX2_seekAll 20 = .ok (.iload_n 3, 1) := by decide +kernel
theorem dX2_seekAll_21 : decode cX2_seekAll 21 = .ok (.iaload, 1) := by decide +kernel
theorem dX2_seekAll_22 : decode cX2_seekAll 22 = .ok (.aaload, 1) := by decide +kernel
theorem dX2_seekAll_23 : decode cX2_seekAll 23 = .ok (.astore 4, 2) := by decide +kernel
theorem dX2_seekAll_25 : decode cX2_seekAll 25 = .ok (.aload_n 0, 1) := by decide +kernel
theorem dX2_seekAll_26 : decode cX2_seekAll 26 = .ok (.dup, 1) := by decide +kernel
theorem dX2_seekAll_27 : decode cX2_seekAll 27 = .ok (.getfield 43, 3) := by decide +kernel
theorem dX2_seekAll_30 : decode cX2_seekAll 30 = .ok (.iconst 1, 1) := by decide +kernel
theorem dX2_seekAll_31 : decode cX2_seekAll 31 = .ok (.iadd, 1) := by decide +kernel
theorem dX2_seekAll_32 : decode cX2_seekAll 32 = .ok (.putfield 43, 3) := by decide +kernel
theorem dX2_seekAll_35 : decode cX2_seekAll 35 = .ok (.aload 4, 2) := by decide +kernel
theorem dX2_seekAll_37 : decode cX2_seekAll 37 = .ok (.iload_n 1, 1) := by decide +kernel
theorem dX2_seekAll_38 : decode cX2_seekAll 38 = .ok (.invokevirtual 107, 3) := by decide +kernel
theorem dX2_seekAll_41 : decode cX2_seekAll 41 = .ok (.iload_n 2, 1) := by decide +kernel
theorem dX2_seekAll_42 : decode cX2_seekAll 42 = .ok (.ifCond .ne 12, 3) := by decide +kernel
theorem dX2_seekAll_45 : decode cX2_seekAll 45 = .ok (.aload 4, 2) := by decide +kernel
theorem dX2_seekAll_47 : decode cX2_seekAll 47 = .ok (.getfield 90, 3) := by decide +kernel
theorem dX2_seekAll_50 : decode cX2_seekAll 50 = .ok (.iload_n 1, 1) := by decide +kernel
theorem dX2_seekAll_51 : decode cX2_seekAll 51 = .ok (.if_icmp .ne 7, 3) := by decide +kernel
theorem dX2_seekAll_54 : decode cX2_seekAll 54 = .ok (.iconst 1, 1) := by decide +kernel
theorem dX2_seekAll_55 : decode cX2_seekAll 55 = .ok (.goto 4, 3) := by decide +kernel
theorem dX2_seekAll_58 : decode cX2_seekAll 58 = .ok (.iconst 0, 1) := by decide +kernel
theorem dX2_seekAll_59 : decode cX2_seekAll 59 = .ok (.istore_n 2, 1) := by decide +kernel
theorem dX2_seekAll_60 : decode cX2_seekAll 60 = .ok (.iinc 3 1, 3) := by decide +kernel
theorem dX2_seekAll_63 : decode cX2_seekAll 63 = .ok (.goto (-59), 3) := by decide +kernel
theorem dX2_seekAll_66 : decode cX2_seekAll 66 = .ok (.iload_n 2, 1) := by decide +kernel
theorem dX2_seekAll_67 : decode cX2_seekAll 67 = .ok (.ireturn, 1) := by decide +kernel
theorem dX2_leave_0 : decode cX2_leave 0 = .ok (.iconst 0, 1) := by decide +kernel
theorem dX2_leave_1 : decode cX2_leave 1 = .ok (.istore_n 2, 1) := by decide +kernel
theorem dX2_leave_2 : decode cX2_leave 2 = .ok (.iload_n 2, 1) := by decide +kernel
theorem dX2_leave_3 : decode cX2_leave 3 = .ok (.aload_n 0, 1) := by decide +kernel
theorem dX2_leave_4 : decode cX2_leave 4 = .ok (.getfield 25, 3) := by decide +kernel
theorem dX2_leave_7 : decode cX2_leave 7 = .ok (.if_icmp .ge 36, 3) := by decide +kernel
theorem dX2_leave_10 : decode cX2_leave 10 = .ok (.aload_n 0, 1) := by decide +kernel
theorem dX2_leave_11 : decode cX2_leave 11 = .ok (.getfield 11, 3) := by decide +kernel
theorem dX2_leave_14 : decode cX2_leave 14 = .ok (.aload_n 0, 1) := by decide +kernel
theorem dX2_leave_15 : decode cX2_leave 15 = .ok (.getfield 17, 3) := by decide +kernel
theorem dX2_leave_18 : decode cX2_leave 18 = .ok (.iload_n 2, 1) := by decide +kernel
theorem dX2_leave_19 : decode cX2_leave 19 = .ok (.iaload, 1) := by decide +kernel
theorem dX2_leave_20 : decode cX2_leave 20 = .ok (.aaload, 1) := by decide +kernel
theorem dX2_leave_21 : decode cX2_leave 21 = .ok (.astore_n 3, 1) := by decide +kernel
theorem dX2_leave_22 : decode cX2_leave 22 = .ok (.aload_n 3, 1) := by decide +kernel
theorem dX2_leave_23 : decode cX2_leave 23 = .ok (.getfield 90, 3) := by decide +kernel
theorem dX2_leave_26 : decode cX2_leave 26 = .ok (.iload_n 1, 1) := by decide +kernel
theorem dX2_leave_27 : decode cX2_leave 27 = .ok (.if_icmp .ne 10, 3) := by decide +kernel
theorem dX2_leave_30 : decode cX2_leave 30 = .ok (.aload_n 3, 1) := by decide +kernel
theorem dX2_leave_31 : decode cX2_leave 31 = .ok (.iload_n 1, 1) := by decide +kernel
theorem dX2_leave_32 : decode cX2_leave 32 = .ok (.iconst 1, 1) := by decide +kernel
theorem dX2_leave_33 : decode cX2_leave 33 = .ok (.iadd, 1) := by decide +kernel
theorem dX2_leave_34 : decode cX2_leave 34 = .ok (.invokevirtual 142, 3) := by decide +kernel
theorem dX2_leave_37 : decode cX2_leave 37 = .ok (.iinc 2 1, 3) := by decide +kernel
theorem dX2_leave_40 : decode cX2_leave 40 = .ok (.goto (-38), 3) := by decide +kernel
theorem dX2_leave_43 : decode cX2_leave 43 = .ok (.return_, 1) := by decide +kernel
theorem dX2_lookAt_0 : decode cX2_lookAt 0 = .ok (.aload_n 0, 1) := by decide +kernel
theorem dX2_lookAt_1 : decode cX2_lookAt 1 = .ok (.dup, 1) := by decide +kernel
theorem dX2_lookAt_2 : decode cX2_lookAt 2 = .ok (.getfield 49, 3) := by decide +kernel
theorem dX2_lookAt_5 : decode cX2_lookAt 5 = .ok (.iconst 1, 1) := by decide +kernel
theorem dX2_lookAt_6 : decode cX2_lookAt 6 = .ok (.iadd, 1) := by decide +kernel
theorem dX2_lookAt_7 : decode cX2_lookAt 7 = .ok (.putfield 49, 3) := by decide +kernel
theorem dX2_lookAt_10 : decode cX2_lookAt 10 = .ok (.aload_n 0, 1) := by decide +kernel
theorem dX2_lookAt_11 : decode cX2_lookAt 11 = .ok (.getfield 56, 3) := by decide +kernel
theorem dX2_lookAt_14 : decode cX2_lookAt 14 = .ok (.iload_n 1, 1) := by decide +kernel
theorem dX2_lookAt_15 : decode cX2_lookAt 15 = .ok (.iconst (-1), 1) := by decide +kernel
theorem dX2_lookAt_16 : decode cX2_lookAt 16 = .ok (.invokevirtual 145, 3) := by decide +kernel
theorem dX2_lookAt_19 : decode cX2_lookAt 19 = .ok (.ifCond .eq 4, 3) := by decide +kernel
theorem dX2_lookAt_22 : decode cX2_lookAt 22 = .ok (.return_, 1) := by decide +kernel
theorem dX2_lookAt_23 : decode cX2_lookAt 23 = .ok (.aload_n 0, 1) := by decide +kernel
theorem dX2_lookAt_24 : decode cX2_lookAt 24 = .ok (.getfield 56, 3) := by decide +kernel
theorem dX2_lookAt_27 : decode cX2_lookAt 27 = .ok (.iload_n 1, 1) := by decide +kernel
theorem dX2_lookAt_28 : decode cX2_lookAt 28 = .ok (.iconst (-1), 1) := by decide +kernel
theorem dX2_lookAt_29 : decode cX2_lookAt 29 = .ok (.invokevirtual 150, 3) := by decide +kernel
theorem dX2_lookAt_32 : decode cX2_lookAt 32 = .ok (.istore_n 2, 1) := by decide +kernel
theorem dX2_lookAt_33 : decode cX2_lookAt 33 = .ok (.aload_n 0, 1) := by decide +kernel
theorem dX2_lookAt_34 : decode cX2_lookAt 34 = .ok (.getfield 37, 3) := by decide +kernel
theorem dX2_lookAt_37 : decode cX2_lookAt 37 = .ok (.aload_n 0, 1) := by decide +kernel
theorem dX2_lookAt_38 : decode cX2_lookAt 38 = .ok (.getfield 28, 3) := by decide +kernel
theorem dX2_lookAt_41 : decode cX2_lookAt 41 = .ok (.if_icmp .lt 22, 3) := by decide +kernel
theorem dX2_lookAt_44 : decode cX2_lookAt 44 = .ok (.iload_n 2, 1) := by decide +kernel
theorem dX2_lookAt_45 : decode cX2_lookAt 45 = .ok (.aload_n 0, 1) := by decide +kernel
theorem dX2_lookAt_46 : decode cX2_lookAt 46 = .ok (.invokevirtual 101, 3) := by decide +kernel
theorem dX2_lookAt_49 : decode cX2_lookAt 49 = .ok (.if_icmp .gt 4, 3) := by decide +kernel
theorem dX2_lookAt_52 : decode cX2_lookAt 52 = .ok (.return_, 1) := by decide +kernel
theorem dX2_lookAt_53 : decode cX2_lookAt 53 = .ok (.aload_n 0, 1) := by decide +kernel
theorem dX2_lookAt_54 : decode cX2_lookAt 54 = .ok (.aload_n 0, 1) := by decide +kernel
theorem dX2_lookAt_55 : decode cX2_lookAt 55 = .ok (.getfield 28, 3) := by decide +kernel
theorem dX2_lookAt_58 : decode cX2_lookAt 58 = .ok (.iconst 1, 1) := by decide +kernel
theorem dX2_lookAt_59 : decode cX2_lookAt 59 = .ok (.isub, 1) := by decide +kernel
theorem dX2_lookAt_60 : decode cX2_lookAt 60 = .ok (.putfield 37, 3) := by decide +kernel
theorem dX2_lookAt_63 : decode cX2_lookAt 63 = .ok (.aload_n 0, 1) := by decide +kernel
theorem dX2_lookAt_64 : decode cX2_lookAt 64 = .ok (.getfield 37, 3) := by decide +kernel
theorem dX2_lookAt_67 : decode cX2_lookAt 67 = .ok (.istore_n 3, 1) := by decide +kernel
theorem dX2_lookAt_68 : decode cX2_lookAt 68 = .ok (.iload_n 3, 1) := by decide +kernel
theorem dX2_lookAt_69 : decode cX2_lookAt 69 = .ok (.ifCond .le 49, 3) := by decide +kernel
theorem dX2_lookAt_72 : decode cX2_lookAt 72 = .ok (.aload_n 0, 1) := by decide +kernel
theorem dX2_lookAt_73 : decode cX2_lookAt 73 = .ok (.getfield 34, 3) := by decide +kernel
theorem dX2_lookAt_76 : decode cX2_lookAt 76 = .ok (.iload_n 3, 1) := by decide +kernel
theorem dX2_lookAt_77 : decode cX2_lookAt 77 = .ok (.iconst 1, 1) := by decide +kernel
theorem dX2_lookAt_78 : decode cX2_lookAt 78 = .ok (.isub, 1) := by decide +kernel
theorem dX2_lookAt_79 : decode cX2_lookAt 79 = .ok (.iaload, 1) := by decide +kernel
theorem dX2_lookAt_80 : decode cX2_lookAt 80 = .ok (.iload_n 2, 1) := by decide +kernel
theorem dX2_lookAt_81 : decode cX2_lookAt 81 = .ok (.if_icmp .ge 37, 3) := by decide +kernel
theorem dX2_lookAt_84 : decode cX2_lookAt 84 = .ok (.aload_n 0, 1) := by decide +kernel
theorem dX2_lookAt_85 : decode cX2_lookAt 85 = .ok (.getfield 31, 3) := by decide +kernel
theorem dX2_lookAt_88 : decode cX2_lookAt 88 = .ok (.iload_n 3, 1) := by decide +kernel
theorem dX2_lookAt_89 : decode cX2_lookAt 89 = .ok (.aload_n 0, 1) := by decide +kernel
theorem dX2_lookAt_90 : decode cX2_lookAt 90 = .ok (.getfield 31, 3) := by decide +kernel
theorem dX2_lookAt_93 : decode cX2_lookAt 93 = .ok (.iload_n 3, 1) := by decide +kernel
theorem dX2_lookAt_94 : decode cX2_lookAt 94 = .ok (.iconst 1, 1) := by decide +kernel
theorem dX2_lookAt_95 : decode cX2_lookAt 95 = .ok (.isub, 1) := by decide +kernel
theorem dX2_lookAt_96 : decode cX2_lookAt 96 = .ok (.iaload, 1) := by decide +kernel
theorem dX2_lookAt_97 : decode cX2_lookAt 97 = .ok (.iastore, 1) := by decide +kernel
theorem dX2_lookAt_98 : decode cX2_lookAt 98 = .ok (.aload_n 0, 1) := by decide +kernel
theorem dX2_lookAt_99 : decode cX2_lookAt 99 = .ok (.getfield 34, 3) := by decide +kernel
theorem dX2_lookAt_102 : decode cX2_lookAt 102 = .ok (.iload_n 3, 1) := by decide +kernel
theorem dX2_lookAt_103 : decode cX2_lookAt 103 = .ok (.aload_n 0, 1) := by decide +kernel
theorem dX2_lookAt_104 : decode cX2_lookAt 104 = .ok (.getfield 34, 3) := by decide +kernel
theorem dX2_lookAt_107 : decode cX2_lookAt 107 = .ok (.iload_n 3, 1) := by decide +kernel
theorem dX2_lookAt_108 : decode cX2_lookAt 108 = .ok (.iconst 1, 1) := by decide +kernel
theorem dX2_lookAt_109 : decode cX2_lookAt 109 = .ok (.isub, 1) := by decide +kernel
theorem dX2_lookAt_110 : decode cX2_lookAt 110 = .ok (.iaload, 1) := by decide +kernel
theorem dX2_lookAt_111 : decode cX2_lookAt 111 = .ok (.iastore, 1) := by decide +kernel
theorem dX2_lookAt_112 : decode cX2_lookAt 112 = .ok (.iinc 3 (-1), 3) := by decide +kernel
theorem dX2_lookAt_115 : decode cX2_lookAt 115 = .ok (.goto (-47), 3) := by decide +kernel
theorem dX2_lookAt_118 : decode cX2_lookAt 118 = .ok (.aload_n 0, 1) := by decide +kernel
theorem dX2_lookAt_119 : decode cX2_lookAt 119 = .ok (.getfield 31, 3) := by decide +kernel
theorem dX2_lookAt_122 : decode cX2_lookAt 122 = .ok (.iload_n 3, 1) := by decide +kernel
theorem dX2_lookAt_123 : decode cX2_lookAt 123 = .ok (.iload_n 1, 1) := by decide +kernel
theorem dX2_lookAt_124 : decode cX2_lookAt 124 = .ok (.iastore, 1) := by decide +kernel
theorem dX2_lookAt_125 : decode cX2_lookAt 125 = .ok (.aload_n 0, 1) := by decide +kernel
theorem dX2_lookAt_126 : decode cX2_lookAt 126 = .ok (.getfield 34, 3) := by decide +kernel
theorem dX2_lookAt_129 : decode cX2_lookAt 129 = .ok (.iload_n 3, 1) := by decide +kernel
theorem dX2_lookAt_130 : decode cX2_lookAt 130 = .ok (.iload_n 2, 1) := by decide +kernel
theorem dX2_lookAt_131 : decode cX2_lookAt 131 = .ok (.iastore, 1) := by decide +kernel
theorem dX2_lookAt_132 : decode cX2_lookAt 132 = .ok (.aload_n 0, 1) := by decide +kernel
theorem dX2_lookAt_133 : decode cX2_lookAt 133 = .ok (.dup, 1) := by decide +kernel
theorem dX2_lookAt_134 : decode cX2_lookAt 134 = .ok (.getfield 37, 3) := by decide +kernel
theorem dX2_lookAt_137 : decode cX2_lookAt 137 = .ok (.iconst 1, 1) := by decide +kernel
theorem dX2_lookAt_138 : decode cX2_lookAt 138 = .ok (.iadd, 1) := by decide +kernel
theorem dX2_lookAt_139 : decode cX2_lookAt 139 = .ok (.putfield 37, 3) := by decide +kernel
theorem dX2_lookAt_142 : decode cX2_lookAt 142 = .ok (.return_, 1) := by decide +kernel
theorem dX2_allOpened_0 : decode cX2_allOpened 0 = .ok (.iconst 0, 1) := by decide +kernel
theorem dX2_allOpened_1 : decode cX2_allOpened 1 = .ok (.istore_n 1, 1) := by decide +kernel
theorem dX2_allOpened_2 : decode cX2_allOpened 2 = .ok (.iconst 0, 1) := by decide +kernel
theorem dX2_allOpened_3 : decode cX2_allOpened 3 = .ok (.istore_n 2, 1) := by decide +kernel
theorem dX2_allOpened_4 : decode cX2_allOpened 4 = .ok (.iload_n 2, 1) := by decide +kernel
theorem dX2_allOpened_5 : decode cX2_allOpened 5 = .ok (.aload_n 0, 1) := by decide +kernel
theorem dX2_allOpened_6 : decode cX2_allOpened 6 = .ok (.getfield 52, 3) := by decide +kernel
theorem dX2_allOpened_9 : decode cX2_allOpened 9 = .ok (.getfield 63, 3) := by decide +kernel
theorem dX2_allOpened_12 : decode cX2_allOpened 12 = .ok (.if_icmp .ge 21, 3) := by decide +kernel
theorem dX2_allOpened_15 : decode cX2_allOpened 15 = .ok (.iload_n 1, 1) := by decide +kernel
theorem dX2_allOpened_16 : decode cX2_allOpened 16 = .ok (.aload_n 0, 1) := by decide +kernel
theorem dX2_allOpened_17 : decode cX2_allOpened 17 = .ok (.getfield 11, 3) := by decide +kernel
theorem dX2_allOpened_20 : decode cX2_allOpened 20 = .ok (.iload_n 2, 1) := by decide +kernel
theorem dX2_allOpened_21 : decode cX2_allOpened 21 = .ok (.aaload, 1) := by decide +kernel
theorem dX2_allOpened_22 : decode cX2_allOpened 22 = .ok (.getfield 153, 3) := by decide +kernel
theorem dX2_allOpened_25 : decode cX2_allOpened 25 = .ok (.iadd, 1) := by decide +kernel
theorem dX2_allOpened_26 : decode cX2_allOpened 26 = .ok (.istore_n 1, 1) := by decide +kernel
theorem dX2_allOpened_27 : decode cX2_allOpened 27 = .ok (.iinc 2 1, 3) := by decide +kernel
theorem dX2_allOpened_30 : decode cX2_allOpened 30 = .ok (.goto (-26), 3) := by decide +kernel
theorem dX2_allOpened_33 : decode cX2_allOpened 33 = .ok (.iload_n 1, 1) := by decide +kernel
theorem dX2_allOpened_34 : decode cX2_allOpened 34 = .ok (.ireturn, 1) := by decide +kernel
theorem dX2_allWork_0 : decode cX2_allWork 0 = .ok (.iconst 0, 1) := by decide +kernel
theorem dX2_allWork_1 : decode cX2_allWork 1 = .ok (.istore_n 1, 1) := by decide +kernel
theorem dX2_allWork_2 : decode cX2_allWork 2 = .ok (.iconst 0, 1) := by decide +kernel
theorem dX2_allWork_3 : decode cX2_allWork 3 = .ok (.istore_n 2, 1) := by decide +kernel
theorem dX2_allWork_4 : decode cX2_allWork 4 = .ok (.iload_n 2, 1) := by decide +kernel
theorem dX2_allWork_5 : decode cX2_allWork 5 = .ok (.aload_n 0, 1) := by decide +kernel
theorem dX2_allWork_6 : decode cX2_allWork 6 = .ok (.getfield 52, 3) := by decide +kernel
theorem dX2_allWork_9 : decode cX2_allWork 9 = .ok (.getfield 63, 3) := by decide +kernel
theorem dX2_allWork_12 : decode cX2_allWork 12 = .ok (.if_icmp .ge 21, 3) := by decide +kernel
theorem dX2_allWork_15 : decode cX2_allWork 15 = .ok (.iload_n 1, 1) := by decide +kernel
theorem dX2_allWork_16 : decode cX2_allWork 16 = .ok (.aload_n 0, 1) := by decide +kernel
theorem dX2_allWork_17 : decode cX2_allWork 17 = .ok (.getfield 11, 3) := by decide +kernel
theorem dX2_allWork_20 : decode cX2_allWork 20 = .ok (.iload_n 2, 1) := by decide +kernel
theorem dX2_allWork_21 : decode cX2_allWork 21 = .ok (.aaload, 1) := by decide +kernel
theorem dX2_allWork_22 : decode cX2_allWork 22 = .ok (.getfield 156, 3) := by decide +kernel
theorem dX2_allWork_25 : decode cX2_allWork 25 = .ok (.iadd, 1) := by decide +kernel
theorem dX2_allWork_26 : decode cX2_allWork 26 = .ok (.istore_n 1, 1) := by decide +kernel
theorem dX2_allWork_27 : decode cX2_allWork 27 = .ok (.iinc 2 1, 3) := by decide +kernel
theorem dX2_allWork_30 : decode cX2_allWork 30 = .ok (.goto (-26), 3) := by decide +kernel
theorem dX2_allWork_33 : decode cX2_allWork 33 = .ok (.iload_n 1, 1) := by decide +kernel
theorem dX2_allWork_34 : decode cX2_allWork 34 = .ok (.ireturn, 1) := by decide +kernel
theorem dX2_spared_0 : decode cX2_spared 0 = .ok (.iconst 0, 1) := by decide +kernel
theorem dX2_spared_1 : decode cX2_spared 1 = .ok (.istore_n 1, 1) := by decide +kernel
theorem dX2_spared_2 : decode cX2_spared 2 = .ok (.iconst 0, 1) := by decide +kernel
theorem dX2_spared_3 : decode cX2_spared 3 = .ok (.istore_n 2, 1) := by decide +kernel
theorem dX2_spared_4 : decode cX2_spared 4 = .ok (.iload_n 2, 1) := by decide +kernel
theorem dX2_spared_5 : decode cX2_spared 5 = .ok (.aload_n 0, 1) := by decide +kernel
theorem dX2_spared_6 : decode cX2_spared 6 = .ok (.getfield 52, 3) := by decide +kernel
theorem dX2_spared_9 : decode cX2_spared 9 = .ok (.getfield 63, 3) := by decide +kernel
theorem dX2_spared_12 : decode cX2_spared 12 = .ok (.if_icmp .ge 47, 3) := by decide +kernel
theorem dX2_spared_15 : decode cX2_spared 15 = .ok (.iconst 0, 1) := by decide +kernel
theorem dX2_spared_16 : decode cX2_spared 16 = .ok (.istore_n 3, 1) := by decide +kernel
theorem dX2_spared_17 : decode cX2_spared 17 = .ok (.iload_n 3, 1) := by decide +kernel
theorem dX2_spared_18 : decode cX2_spared 18 = .ok (.aload_n 0, 1) := by decide +kernel
theorem dX2_spared_19 : decode cX2_spared 19 = .ok (.getfield 11, 3) := by decide +kernel
theorem dX2_spared_22 : decode cX2_spared 22 = .ok (.iload_n 2, 1) := by decide +kernel
theorem dX2_spared_23 : decode cX2_spared 23 = .ok (.aaload, 1) := by decide +kernel
theorem dX2_spared_24 : decode cX2_spared 24 = .ok (.getfield 159, 3) := by decide +kernel
theorem dX2_spared_27 : decode cX2_spared 27 = .ok (.if_icmp .ge 26, 3) := by decide +kernel
theorem dX2_spared_30 : decode cX2_spared 30 = .ok (.aload_n 0, 1) := by decide +kernel
theorem dX2_spared_31 : decode cX2_spared 31 = .ok (.getfield 11, 3) := by decide +kernel
theorem dX2_spared_34 : decode cX2_spared 34 = .ok (.iload_n 2, 1) := by decide +kernel
theorem dX2_spared_35 : decode cX2_spared 35 = .ok (.aaload, 1) := by decide +kernel
theorem dX2_spared_36 : decode cX2_spared 36 = .ok (.getfield 162, 3) := by decide +kernel
theorem dX2_spared_39 : decode cX2_spared 39 = .ok (.iload_n 3, 1) := by decide +kernel
theorem dX2_spared_40 : decode cX2_spared 40 = .ok (.iaload, 1) := by decide +kernel
theorem dX2_spared_41 : decode cX2_spared 41 = .ok (.ifCond .ne 6, 3) := by decide +kernel
theorem dX2_spared_44 : decode cX2_spared 44 = .ok (.iinc 1 1, 3) := by decide +kernel
theorem dX2_spared_47 : decode cX2_spared 47 = .ok (.iinc 3 1, 3) := by decide +kernel
theorem dX2_spared_50 : decode cX2_spared 50 = .ok (.goto (-33), 3) := by decide +kernel
theorem dX2_spared_53 : decode cX2_spared 53 = .ok (.iinc 2 1, 3) := by decide +kernel
theorem dX2_spared_56 : decode cX2_spared 56 = .ok (.goto (-52), 3) := by decide +kernel
theorem dX2_spared_59 : decode cX2_spared 59 = .ok (.iload_n 1, 1) := by decide +kernel
theorem dX2_spared_60 : decode cX2_spared 60 = .ok (.ireturn, 1) := by decide +kernel
theorem dX3_init_0 : decode cX3_init 0 = .ok (.aload_n 0, 1) := by decide +kernel
theorem dX3_init_1 : decode cX3_init 1 = .ok (.invokespecial 3, 3) := by decide +kernel
theorem dX3_init_4 : decode cX3_init 4 = .ok (.aload_n 0, 1) := by decide +kernel
theorem dX3_init_5 : decode cX3_init 5 = .ok (.bipush 24, 2) := by decide +kernel
theorem dX3_init_7 : decode cX3_init 7 = .ok (.newarray .int, 2) := by decide +kernel
theorem dX3_init_9 : decode cX3_init 9 = .ok (.putfield 9, 3) := by decide +kernel
theorem dX3_init_12 : decode cX3_init 12 = .ok (.aload_n 0, 1) := by decide +kernel
theorem dX3_init_13 : decode cX3_init 13 = .ok (.iconst (-1), 1) := by decide +kernel
theorem dX3_init_14 : decode cX3_init 14 = .ok (.putfield 15, 3) := by decide +kernel
theorem dX3_init_17 : decode cX3_init 17 = .ok (.aload_n 0, 1) := by decide +kernel
theorem dX3_init_18 : decode cX3_init 18 = .ok (.iconst 0, 1) := by decide +kernel
theorem dX3_init_19 : decode cX3_init 19 = .ok (.putfield 19, 3) := by decide +kernel
theorem dX3_init_22 : decode cX3_init 22 = .ok (.aload_n 0, 1) := by decide +kernel
theorem dX3_init_23 : decode cX3_init 23 = .ok (.aload_n 1, 1) := by decide +kernel
theorem dX3_init_24 : decode cX3_init 24 = .ok (.putfield 22, 3) := by decide +kernel
theorem dX3_init_27 : decode cX3_init 27 = .ok (.aload_n 0, 1) := by decide +kernel
theorem dX3_init_28 : decode cX3_init 28 = .ok (.aload_n 2, 1) := by decide +kernel
theorem dX3_init_29 : decode cX3_init 29 = .ok (.putfield 26, 3) := by decide +kernel
theorem dX3_init_32 : decode cX3_init 32 = .ok (.return_, 1) := by decide +kernel
theorem dX3_whyNot_0 : decode cX3_whyNot 0 = .ok (.aload_n 0, 1) := by decide +kernel
theorem dX3_whyNot_1 : decode cX3_whyNot 1 = .ok (.getfield 22, 3) := by decide +kernel
theorem dX3_whyNot_4 : decode cX3_whyNot 4 = .ok (.iload_n 1, 1) := by decide +kernel
theorem dX3_whyNot_5 : decode cX3_whyNot 5 = .ok (.invokevirtual 30, 3) := by decide +kernel
theorem dX3_whyNot_8 : decode cX3_whyNot 8 = .ok (.ifCond .eq 5, 3) := by decide +kernel
theorem dX3_whyNot_11 : decode cX3_whyNot 11 = .ok (.iconst 1, 1) := by decide +kernel
theorem dX3_whyNot_12 : decode cX3_whyNot 12 = .ok (.ireturn, 1) := by decide +kernel
theorem dX3_whyNot_13 : decode cX3_whyNot 13 = .ok (.aload_n 0, 1) := by decide +kernel
theorem dX3_whyNot_14 : decode cX3_whyNot 14 = .ok (.iload_n 1, 1) := by decide +kernel
theorem dX3_whyNot_15 : decode cX3_whyNot 15 = .ok (.iload_n 2, 1) := by decide +kernel
theorem dX3_whyNot_16 : decode cX3_whyNot 16 = .ok (.invokevirtual 36, 3) := by decide +kernel
theorem dX3_whyNot_19 : decode cX3_whyNot 19 = .ok (.ifCond .ne 5, 3) := by decide +kernel
theorem dX3_whyNot_22 : decode cX3_whyNot 22 = .ok (.iconst 2, 1) := by decide +kernel
theorem dX3_whyNot_23 : decode cX3_whyNot 23 = .ok (.ireturn, 1) := by decide +kernel
theorem dX3_whyNot_24 : decode cX3_whyNot 24 = .ok (.aload_n 0, 1) := by decide +kernel
theorem dX3_whyNot_25 : decode cX3_whyNot 25 = .ok (.iload_n 1, 1) := by decide +kernel
theorem dX3_whyNot_26 : decode cX3_whyNot 26 = .ok (.invokevirtual 40, 3) := by decide +kernel
theorem dX3_whyNot_29 : decode cX3_whyNot 29 = .ok (.ifCond .eq 5, 3) := by decide +kernel
theorem dX3_whyNot_32 : decode cX3_whyNot 32 = .ok (.iconst 3, 1) := by decide +kernel
theorem dX3_whyNot_33 : decode cX3_whyNot 33 = .ok (.ireturn, 1) := by decide +kernel
theorem dX3_whyNot_34 : decode cX3_whyNot 34 = .ok (.aload_n 0, 1) := by decide +kernel
theorem dX3_whyNot_35 : decode cX3_whyNot 35 = .ok (.iload_n 1, 1) := by decide +kernel
theorem dX3_whyNot_36 : decode cX3_whyNot 36 = .ok (.invokevirtual 43, 3) := by decide +kernel
theorem dX3_whyNot_39 : decode cX3_whyNot 39 = .ok (.ifCond .eq 5, 3) := by decide +kernel
theorem dX3_whyNot_42 : decode cX3_whyNot 42 = .ok (.iconst 4, 1) := by decide +kernel
theorem dX3_whyNot_43 : decode cX3_whyNot 43 = .ok (.ireturn, 1) := by decide +kernel
theorem dX3_whyNot_44 : decode cX3_whyNot 44 = .ok (.aload_n 0, 1) := by decide +kernel
theorem dX3_whyNot_45 : decode cX3_whyNot 45 = .ok (.iload_n 1, 1) := by decide +kernel
theorem dX3_whyNot_46 : decode cX3_whyNot 46 = .ok (.invokevirtual 46, 3) := by decide +kernel
theorem dX3_whyNot_49 : decode cX3_whyNot 49 = .ok (.ifCond .eq 7, 3) := by decide +kernel
theorem dX3_whyNot_52 : decode cX3_whyNot 52 = .ok (.iconst 5, 1) := by decide +kernel
theorem dX3_whyNot_53 : decode cX3_whyNot 53 = .ok (.goto 4, 3) := by decide +kernel
theorem dX3_whyNot_56 : decode cX3_whyNot 56 = .ok (.iconst 0, 1) := by decide +kernel
theorem dX3_whyNot_57 : decode cX3_whyNot 57 = .ok (.ireturn, 1) := by decide +kernel
theorem dX3_hasWord_0 : decode cX3_hasWord 0 = .ok (.aload_n 0, 1) := by decide +kernel
theorem dX3_hasWord_1 : decode cX3_hasWord 1 = .ok (.getfield 22, 3) := by decide +kernel
theorem dX3_hasWord_4 : decode cX3_hasWord 4 = .ok (.getfield 49, 3) := by decide +kernel
theorem dX3_hasWord_7 : decode cX3_hasWord 7 = .ok (.iload_n 2, 1) := by decide +kernel
theorem dX3_hasWord_8 : decode cX3_hasWord 8 = .ok (.aaload, 1) := by decide +kernel
theorem dX3_hasWord_9 : decode cX3_hasWord 9 = .ok (.iload_n 1, 1) := by decide +kernel
theorem dX3_hasWord_10 : decode cX3_hasWord 10 = .ok (.iaload, 1) := by decide +kernel
theorem dX3_hasWord_11 : decode cX3_hasWord 11 = .ok (.ifCond .le 7, 3) := by decide +kernel
theorem dX3_hasWord_14 : decode cX3_hasWord 14 = .ok (.iconst 1, 1) := by decide +kernel
theorem dX3_hasWord_15 : decode cX3_hasWord 15 = .ok (.goto 4, 3) := by decide +kernel
theorem dX3_hasWord_18 : decode cX3_hasWord 18 = .ok (.iconst 0, 1) := by decide +kernel
theorem dX3_hasWord_19 : decode cX3_hasWord 19 = .ok (.ireturn, 1) := by decide +kernel
theorem dX3_hasSomeScored_0 : decode cX3_hasSomeScored 0 = .ok (.iconst 0, 1) := by decide +kernel
theorem dX3_hasSomeScored_1 : decode cX3_hasSomeScored 1 = .ok (.istore_n 3, 1) := by decide +kernel
theorem dX3_hasSomeScored_2 : decode cX3_hasSomeScored 2 = .ok (.iload_n 3, 1) := by decide +kernel
theorem dX3_hasSomeScored_3 : decode cX3_hasSomeScored 3 = .ok (.aload_n 0, 1) := by decide +kernel
theorem dX3_hasSomeScored_4 : decode cX3_hasSomeScored 4 = .ok (.getfield 26, 3) := by decide +kernel
theorem dX3_hasSomeScored_7 : decode cX3_hasSomeScored 7 = .ok (.getfield 53, 3) := by decide +kernel
theorem dX3_hasSomeScored_10 : decode cX3_hasSomeScored 10 = .ok (.if_icmp .ge 33, 3) := by decide +kernel
theorem dX3_hasSomeScored_13 : decode cX3_hasSomeScored 13 = .ok (.iload_n 3, 1) := by decide +kernel
theorem dX3_hasSomeScored_14 : decode cX3_hasSomeScored 14 = .ok (.iload_n 2, 1) := by decide +kernel
theorem dX3_hasSomeScored_15 : decode cX3_hasSomeScored 15 = .ok (.if_icmp .eq 22, 3) := by decide +kernel
theorem dX3_hasSomeScored_18 : decode cX3_hasSomeScored 18 = .ok (.aload_n 0, 1) := by decide +kernel
theorem dX3_hasSomeScored_19 : decode cX3_hasSomeScored 19 = .ok (.iload_n 1, 1) := by decide +kernel
theorem dX3_hasSomeScored_20 : decode cX3_hasSomeScored 20 = .ok (.aload_n 0, 1) := by decide +kernel
theorem dX3_hasSomeScored_21 : decode cX3_hasSomeScored 21 = .ok (.getfield 26, 3) := by decide +kernel
theorem dX3_hasSomeScored_24 : decode cX3_hasSomeScored 24 = .ok (.getfield 58, 3) := by decide +kernel
theorem dX3_hasSomeScored_27 : decode cX3_hasSomeScored 27 = .ok (.iload_n 3, 1) := by decide +kernel
theorem dX3_hasSomeScored_28 : decode cX3_hasSomeScored 28 = .ok (.iaload, 1) := by decide +kernel
theorem dX3_hasSomeScored_29 : decode cX3_hasSomeScored 29 = .ok (.invokevirtual 61, 3) := by decide +kernel
theorem dX3_hasSomeScored_32 : decode cX3_hasSomeScored 32 = .ok (.ifCond .eq 5, 3) := by decide +kernel
theorem dX3_hasSomeScored_35 : decode cX3_hasSomeScored 35 = .ok (.iconst 1, 1) := by decide +kernel
theorem dX3_hasSomeScored_36 : decode cX3_hasSomeScored 36 = .ok (.ireturn, 1) := by decide +kernel
theorem dX3_hasSomeScored_37 : decode cX3_hasSomeScored 37 = .ok (.iinc 3 1, 3) := by decide +kernel
theorem dX3_hasSomeScored_40 : decode cX3_hasSomeScored 40 = .ok (.goto (-38), 3) := by decide +kernel
theorem dX3_hasSomeScored_43 : decode cX3_hasSomeScored 43 = .ok (.iconst 0, 1) := by decide +kernel
theorem dX3_hasSomeScored_44 : decode cX3_hasSomeScored 44 = .ok (.ireturn, 1) := by decide +kernel
theorem dX3_hasAllScored_0 : decode cX3_hasAllScored 0 = .ok (.iconst 0, 1) := by decide +kernel
theorem dX3_hasAllScored_1 : decode cX3_hasAllScored 1 = .ok (.istore_n 2, 1) := by decide +kernel
theorem dX3_hasAllScored_2 : decode cX3_hasAllScored 2 = .ok (.iload_n 2, 1) := by decide +kernel
theorem dX3_hasAllScored_3 : decode cX3_hasAllScored 3 = .ok (.aload_n 0, 1) := by decide +kernel
theorem dX3_hasAllScored_4 : decode cX3_hasAllScored 4 = .ok (.getfield 26, 3) := by decide +kernel
theorem dX3_hasAllScored_7 : decode cX3_hasAllScored 7 = .ok (.getfield 53, 3) := by decide +kernel
theorem dX3_hasAllScored_10 : decode cX3_hasAllScored 10 = .ok (.if_icmp .ge 28, 3) := by decide +kernel
theorem dX3_hasAllScored_13 : decode cX3_hasAllScored 13 = .ok (.aload_n 0, 1) := by decide +kernel
theorem dX3_hasAllScored_14 : decode cX3_hasAllScored 14 = .ok (.iload_n 1, 1) := by decide +kernel
theorem dX3_hasAllScored_15 : decode cX3_hasAllScored 15 = .ok (.aload_n 0, 1) := by decide +kernel
theorem dX3_hasAllScored_16 : decode cX3_hasAllScored 16 = .ok (.getfield 26, 3) := by decide +kernel
theorem dX3_hasAllScored_19 : decode cX3_hasAllScored 19 = .ok (.getfield 58, 3) := by decide +kernel
theorem dX3_hasAllScored_22 : decode cX3_hasAllScored 22 = .ok (.iload_n 2, 1) := by decide +kernel
theorem dX3_hasAllScored_23 : decode cX3_hasAllScored 23 = .ok (.iaload, 1) := by decide +kernel
theorem dX3_hasAllScored_24 : decode cX3_hasAllScored 24 = .ok (.invokevirtual 61, 3) := by decide +kernel
theorem dX3_hasAllScored_27 : decode cX3_hasAllScored 27 = .ok (.ifCond .ne 5, 3) := by decide +kernel
theorem dX3_hasAllScored_30 : decode cX3_hasAllScored 30 = .ok (.iconst 0, 1) := by decide +kernel
theorem dX3_hasAllScored_31 : decode cX3_hasAllScored 31 = .ok (.ireturn, 1) := by decide +kernel
theorem dX3_hasAllScored_32 : decode cX3_hasAllScored 32 = .ok (.iinc 2 1, 3) := by decide +kernel
theorem dX3_hasAllScored_35 : decode cX3_hasAllScored 35 = .ok (.goto (-33), 3) := by decide +kernel
theorem dX3_hasAllScored_38 : decode cX3_hasAllScored 38 = .ok (.aload_n 0, 1) := by decide +kernel
theorem dX3_hasAllScored_39 : decode cX3_hasAllScored 39 = .ok (.getfield 26, 3) := by decide +kernel
theorem dX3_hasAllScored_42 : decode cX3_hasAllScored 42 = .ok (.getfield 53, 3) := by decide +kernel
theorem dX3_hasAllScored_45 : decode cX3_hasAllScored 45 = .ok (.ifCond .le 7, 3) := by decide +kernel
theorem dX3_hasAllScored_48 : decode cX3_hasAllScored 48 = .ok (.iconst 1, 1) := by decide +kernel
theorem dX3_hasAllScored_49 : decode cX3_hasAllScored 49 = .ok (.goto 4, 3) := by decide +kernel
theorem dX3_hasAllScored_52 : decode cX3_hasAllScored 52 = .ok (.iconst 0, 1) := by decide +kernel
theorem dX3_hasAllScored_53 : decode cX3_hasAllScored 53 = .ok (.ireturn, 1) := by decide +kernel
theorem dX3_missesMust_0 : decode cX3_missesMust 0 = .ok (.iconst 0, 1) := by decide +kernel
theorem dX3_missesMust_1 : decode cX3_missesMust 1 = .ok (.istore_n 2, 1) := by decide +kernel
theorem dX3_missesMust_2 : decode cX3_missesMust 2 = .ok (.iload_n 2, 1) := by decide +kernel
theorem dX3_missesMust_3 : decode cX3_missesMust 3 = .ok (.aload_n 0, 1) := by decide +kernel
theorem dX3_missesMust_4 : decode cX3_missesMust 4 = .ok (.getfield 26, 3) := by decide +kernel
theorem dX3_missesMust_7 : decode cX3_missesMust 7 = .ok (.getfield 53, 3) := by decide +kernel
theorem dX3_missesMust_10 : decode cX3_missesMust 10 = .ok (.if_icmp .ge 40, 3) := by decide +kernel
theorem dX3_missesMust_13 : decode cX3_missesMust 13 = .ok (.aload_n 0, 1) := by decide +kernel
theorem dX3_missesMust_14 : decode cX3_missesMust 14 = .ok (.getfield 26, 3) := by decide +kernel
theorem dX3_missesMust_17 : decode cX3_missesMust 17 = .ok (.getfield 64, 3) := by decide +kernel
theorem dX3_missesMust_20 : decode cX3_missesMust 20 = .ok (.iload_n 2, 1) := by decide +kernel
theorem dX3_missesMust_21 : decode cX3_missesMust 21 = .ok (.baload, 1) := by decide +kernel
theorem dX3_missesMust_22 : decode cX3_missesMust 22 = .ok (.ifCond .eq 22, 3) := by decide +kernel
theorem dX3_missesMust_25 : decode cX3_missesMust 25 = .ok (.aload_n 0, 1) := by decide +kernel
theorem dX3_missesMust_26 : decode cX3_missesMust 26 = .ok (.iload_n 1, 1) := by decide +kernel
theorem dX3_missesMust_27 : decode cX3_missesMust 27 = .ok (.aload_n 0, 1) := by decide +kernel
theorem dX3_missesMust_28 : decode cX3_missesMust 28 = .ok (.getfield 26, 3) := by decide +kernel
theorem dX3_missesMust_31 : decode cX3_missesMust 31 = .ok (.getfield 58, 3) := by decide +kernel
theorem dX3_missesMust_34 : decode cX3_missesMust 34 = .ok (.iload_n 2, 1) := by decide +kernel
theorem dX3_missesMust_35 : decode cX3_missesMust 35 = .ok (.iaload, 1) := by decide +kernel
theorem dX3_missesMust_36 : decode cX3_missesMust 36 = .ok (.invokevirtual 61, 3) := by decide +kernel
theorem dX3_missesMust_39 : decode cX3_missesMust 39 = .ok (.ifCond .ne 5, 3) := by decide +kernel
theorem dX3_missesMust_42 : decode cX3_missesMust 42 = .ok (.iconst 1, 1) := by decide +kernel
theorem dX3_missesMust_43 : decode cX3_missesMust 43 = .ok (.ireturn, 1) := by decide +kernel
theorem dX3_missesMust_44 : decode cX3_missesMust 44 = .ok (.iinc 2 1, 3) := by decide +kernel
theorem dX3_missesMust_47 : decode cX3_missesMust 47 = .ok (.goto (-45), 3) := by decide +kernel
theorem dX3_missesMust_50 : decode cX3_missesMust 50 = .ok (.aload_n 0, 1) := by decide +kernel
theorem dX3_missesMust_51 : decode cX3_missesMust 51 = .ok (.getfield 26, 3) := by decide +kernel
theorem dX3_missesMust_54 : decode cX3_missesMust 54 = .ok (.getfield 68, 3) := by decide +kernel
theorem dX3_missesMust_57 : decode cX3_missesMust 57 = .ok (.ireturn, 1) := by decide +kernel
theorem dX3_hasNot_0 : decode cX3_hasNot 0 = .ok (.iconst 0, 1) := by decide +kernel
theorem dX3_hasNot_1 : decode cX3_hasNot 1 = .ok (.istore_n 2, 1) := by decide +kernel
theorem dX3_hasNot_2 : decode cX3_hasNot 2 = .ok (.iload_n 2, 1) := by decide +kernel
theorem dX3_hasNot_3 : decode cX3_hasNot 3 = .ok (.aload_n 0, 1) := by decide +kernel
theorem dX3_hasNot_4 : decode cX3_hasNot 4 = .ok (.getfield 26, 3) := by decide +kernel
theorem dX3_hasNot_7 : decode cX3_hasNot 7 = .ok (.getfield 72, 3) := by decide +kernel
theorem dX3_hasNot_10 : decode cX3_hasNot 10 = .ok (.if_icmp .ge 28, 3) := by decide +kernel
theorem dX3_hasNot_13 : decode cX3_hasNot 13 = .ok (.aload_n 0, 1) := by decide +kernel
theorem dX3_hasNot_14 : decode cX3_hasNot 14 = .ok (.iload_n 1, 1) := by decide +kernel
theorem dX3_hasNot_15 : decode cX3_hasNot 15 = .ok (.aload_n 0, 1) := by decide +kernel
theorem dX3_hasNot_16 : decode cX3_hasNot 16 = .ok (.getfield 26, 3) := by decide +kernel
theorem dX3_hasNot_19 : decode cX3_hasNot 19 = .ok (.getfield 75, 3) := by decide +kernel
theorem dX3_hasNot_22 : decode cX3_hasNot 22 = .ok (.iload_n 2, 1) := by decide +kernel
theorem dX3_hasNot_23 : decode cX3_hasNot 23 = .ok (.iaload, 1) := by decide +kernel
theorem dX3_hasNot_24 : decode cX3_hasNot 24 = .ok (.invokevirtual 61, 3) := by decide +kernel
theorem dX3_hasNot_27 : decode cX3_hasNot 27 = .ok (.ifCond .eq 5, 3) := by decide +kernel
theorem dX3_hasNot_30 : decode cX3_hasNot 30 = .ok (.iconst 1, 1) := by decide +kernel
theorem dX3_hasNot_31 : decode cX3_hasNot 31 = .ok (.ireturn, 1) := by decide +kernel
theorem dX3_hasNot_32 : decode cX3_hasNot 32 = .ok (.iinc 2 1, 3) := by decide +kernel
theorem dX3_hasNot_35 : decode cX3_hasNot 35 = .ok (.goto (-33), 3) := by decide +kernel
theorem dX3_hasNot_38 : decode cX3_hasNot 38 = .ok (.iconst 0, 1) := by decide +kernel
theorem dX3_hasNot_39 : decode cX3_hasNot 39 = .ok (.ireturn, 1) := by decide +kernel
theorem dX3_missesPhrase_0 : decode cX3_missesPhrase 0 = .ok (.iconst 0, 1) := by decide +kernel
theorem dX3_missesPhrase_1 : decode cX3_missesPhrase 1 = .ok (.istore_n 2, 1) := by decide +kernel
theorem dX3_missesPhrase_2 : decode cX3_missesPhrase 2 = .ok (.iload_n 2, 1) := by decide +kernel
theorem dX3_missesPhrase_3 : decode cX3_missesPhrase 3 = .ok (.aload_n 0, 1) := by decide +kernel
theorem dX3_missesPhrase_4 : decode cX3_missesPhrase 4 = .ok (.getfield 26, 3) := by decide +kernel
theorem dX3_missesPhrase_7 : decode cX3_missesPhrase 7 = .ok (.getfield 78, 3) := by decide +kernel
theorem dX3_missesPhrase_10 : decode cX3_missesPhrase 10 = .ok (.if_icmp .ge 20, 3) := by decide +kernel
theorem dX3_missesPhrase_13 : decode cX3_missesPhrase 13 = .ok (.aload_n 0, 1) := by decide +kernel
theorem dX3_missesPhrase_14 : decode cX3_missesPhrase 14 = .ok (.iload_n 1, 1) := by decide +kernel
theorem dX3_missesPhrase_15 : decode cX3_missesPhrase 15 = .ok (.iload_n 2, 1) := by decide +kernel
theorem dX3_missesPhrase_16 : decode cX3_missesPhrase 16 = .ok (.invokevirtual 81, 3) := by decide +kernel
theorem dX3_missesPhrase_19 : decode cX3_missesPhrase 19 = .ok (.ifCond .ne 5, 3) := by decide +kernel
theorem dX3_missesPhrase_22 : decode cX3_missesPhrase 22 = .ok (.iconst 1, 1) := by decide +kernel
theorem dX3_missesPhrase_23 : decode cX3_missesPhrase 23 = .ok (.ireturn, 1) := by decide +kernel
theorem dX3_missesPhrase_24 : decode cX3_missesPhrase 24 = .ok (.iinc 2 1, 3) := by decide +kernel
theorem dX3_missesPhrase_27 : decode cX3_missesPhrase 27 = .ok (.goto (-25), 3) := by decide +kernel
theorem dX3_missesPhrase_30 : decode cX3_missesPhrase 30 = .ok (.iconst 0, 1) := by decide +kernel
theorem dX3_missesPhrase_31 : decode cX3_missesPhrase 31 = .ok (.ireturn, 1) := by decide +kernel
theorem dX3_phraseBegins_0 : decode cX3_phraseBegins 0 = .ok (.aload_n 0, 1) := by decide +kernel
theorem dX3_phraseBegins_1 : decode cX3_phraseBegins 1 = .ok (.getfield 22, 3) := by decide +kernel
theorem dX3_phraseBegins_4 : decode cX3_phraseBegins 4 = .ok (.getfield 85, 3) := by decide +kernel
theorem dX3_phraseBegins_7 : decode cX3_phraseBegins 7 = .ok (.iload_n 1, 1) := by decide +kernel
theorem dX3_phraseBegins_8 : decode cX3_phraseBegins 8 = .ok (.aaload, 1) := by decide +kernel
theorem dX3_phraseBegins_9 : decode cX3_phraseBegins 9 = .ok (.astore_n 3, 1) := by decide +kernel
theorem dX3_phraseBegins_10 : decode cX3_phraseBegins 10 = .ok (.aload_n 0, 1) := by decide +kernel
theorem dX3_phraseBegins_11 : decode cX3_phraseBegins 11 = .ok (.getfield 26, 3) := by decide +kernel
theorem dX3_phraseBegins_14 : decode cX3_phraseBegins 14 = .ok (.getfield 88, 3) := by decide +kernel
theorem dX3_phraseBegins_17 : decode cX3_phraseBegins 17 = .ok (.iload_n 2, 1) := by decide +kernel
theorem dX3_phraseBegins_18 : decode cX3_phraseBegins 18 = .ok (.aaload, 1) := by decide +kernel
theorem dX3_phraseBegins_19 : decode cX3_phraseBegins 19 = .ok (.astore 4, 2) := by decide +kernel
theorem dX3_phraseBegins_21 : decode cX3_phraseBegins 21 = .ok (.aload_n 0, 1) := by decide +kernel
theorem dX3_phraseBegins_22 : decode cX3_phraseBegins 22 = .ok (.getfield 26, 3) := by decide +kernel
theorem dX3_phraseBegins_25 : decode cX3_phraseBegins 25 = .ok (.getfield 91, 3) := by decide +kernel
theorem dX3_phraseBegins_28 : decode cX3_phraseBegins 28 = .ok (.iload_n 2, 1) := by decide +kernel
theorem dX3_phraseBegins_29 : decode cX3_phraseBegins 29 = .ok (.iaload, 1) := by decide +kernel
theorem dX3_phraseBegins_30 : decode cX3_phraseBegins 30 = .ok (.istore 5, 2) := by decide +kernel
theorem dX3_phraseBegins_32 : decode cX3_phraseBegins 32 = .ok (.iconst 0, 1) := by decide +kernel
theorem dX3_phraseBegins_33 : decode cX3_phraseBegins 33 = .ok (.istore 6, 2) := by decide +kernel
theorem dX3_phraseBegins_35 : decode cX3_phraseBegins 35 = .ok (.iconst 0, 1) := by decide +kernel
theorem dX3_phraseBegins_36 : decode cX3_phraseBegins 36 = .ok (.istore 7, 2) := by decide +kernel
theorem dX3_phraseBegins_38 : decode cX3_phraseBegins 38 = .ok (.iload 7, 2) := by decide +kernel
theorem dX3_phraseBegins_40 : decode cX3_phraseBegins 40 = .ok (.iload 5, 2) := by decide +kernel
theorem dX3_phraseBegins_42 : decode cX3_phraseBegins 42 = .ok (.iadd, 1) := by decide +kernel
theorem dX3_phraseBegins_43 : decode cX3_phraseBegins 43 = .ok (.aload_n 0, 1) := by decide +kernel
theorem dX3_phraseBegins_44 : decode cX3_phraseBegins 44 = .ok (.getfield 22, 3) := by decide +kernel
theorem dX3_phraseBegins_47 : decode cX3_phraseBegins 47 = .ok (.getfield 94, 3) := by decide +kernel
theorem dX3_phraseBegins_50 : decode cX3_phraseBegins 50 = .ok (.iload_n 1, 1) := by decide +kernel
theorem dX3_phraseBegins_51 : decode cX3_phraseBegins 51 = .ok (.iaload, 1) := by decide +kernel
theorem dX3_phraseBegins_52 : decode cX3_phraseBegins 52 = .ok (.if_icmp .gt 50, 3) := by decide +kernel
theorem dX3_phraseBegins_55 : decode cX3_phraseBegins 55 = .ok (.iconst 0, 1) := by decide +kernel
theorem dX3_phraseBegins_56 : decode cX3_phraseBegins 56 = .ok (.istore 8, 2) := by decide +kernel
theorem dX3_phraseBegins_58 : decode cX3_phraseBegins 58 = .ok (.iload 8, 2) := by decide +kernel
theorem dX3_phraseBegins_60 : decode cX3_phraseBegins 60 = .ok (.iload 5, 2) := by decide +kernel
theorem dX3_phraseBegins_62 : decode cX3_phraseBegins 62 = .ok (.if_icmp .ge 24, 3) := by decide +kernel
theorem dX3_phraseBegins_65 : decode cX3_phraseBegins 65 = .ok (.aload_n 3, 1) := by decide +kernel
theorem dX3_phraseBegins_66 : decode cX3_phraseBegins 66 = .ok (.iload 7, 2) := by decide +kernel
theorem dX3_phraseBegins_68 : decode cX3_phraseBegins 68 = .ok (.iload 8, 2) := by decide +kernel
theorem dX3_phraseBegins_70 : decode cX3_phraseBegins 70 = .ok (.iadd, 1) := by decide +kernel
theorem dX3_phraseBegins_71 : decode cX3_phraseBegins 71 = .ok (.iaload, 1) := by decide +kernel
theorem dX3_phraseBegins_72 : decode cX3_phraseBegins 72 = .ok (.aload 4, 2) := by decide +kernel
theorem dX3_phraseBegins_74 : decode cX3_phraseBegins 74 = .ok (.iload 8, 2) := by decide +kernel
theorem dX3_phraseBegins_76 : decode cX3_phraseBegins 76 = .ok (.iaload, 1) := by decide +kernel
theorem dX3_phraseBegins_77 : decode cX3_phraseBegins 77 = .ok (.if_icmp .ne 9, 3) := by decide +kernel
theorem dX3_phraseBegins_80 : decode cX3_phraseBegins 80 = .ok (.iinc 8 1, 3) := by decide +kernel
theorem dX3_phraseBegins_83 : decode cX3_phraseBegins 83 = .ok (.goto (-25), 3) := by decide +kernel
theorem dX3_phraseBegins_86 : decode cX3_phraseBegins 86 = .ok (.iload 8, 2) := by decide +kernel
theorem dX3_phraseBegins_88 : decode cX3_phraseBegins 88 = .ok (.iload 5, 2) := by decide +kernel
theorem dX3_phraseBegins_90 : decode cX3_phraseBegins 90 = .ok (.if_icmp .ne 6, 3) := by decide +kernel
theorem dX3_phraseBegins_93 : decode cX3_phraseBegins 93 = .ok (.iinc 6 1, 3) := by decide +kernel
theorem dX3_phraseBegins_96 : decode cX3_phraseBegins 96 = .ok (.iinc 7 1, 3) := by decide +kernel
theorem dX3_phraseBegins_99 : decode cX3_phraseBegins 99 = .ok (.goto (-61), 3) := by decide +kernel
theorem dX3_phraseBegins_102 : decode cX3_phraseBegins 102 = .ok (.iload 6, 2) := by decide +kernel
theorem dX3_phraseBegins_104 : decode cX3_phraseBegins 104 = .ok (.ireturn, 1) := by decide +kernel
theorem dX3_pointsOf_0 : decode cX3_pointsOf 0 = .ok (.aload_n 0, 1) := by decide +kernel
theorem dX3_pointsOf_1 : decode cX3_pointsOf 1 = .ok (.getfield 26, 3) := by decide +kernel
theorem dX3_pointsOf_4 : decode cX3_pointsOf 4 = .ok (.getfield 58, 3) := by decide +kernel
theorem dX3_pointsOf_7 : decode cX3_pointsOf 7 = .ok (.iload_n 2, 1) := by decide +kernel
theorem dX3_pointsOf_8 : decode cX3_pointsOf 8 = .ok (.iaload, 1) := by decide +kernel
theorem dX3_pointsOf_9 : decode cX3_pointsOf 9 = .ok (.istore_n 3, 1) := by decide +kernel
theorem dX3_pointsOf_10 : decode cX3_pointsOf 10 = .ok (.aload_n 0, 1) := by decide +kernel
theorem dX3_pointsOf_11 : decode cX3_pointsOf 11 = .ok (.getfield 26, 3) := by decide +kernel
theorem dX3_pointsOf_14 : decode cX3_pointsOf 14 = .ok (.getfield 97, 3) := by decide +kernel
theorem dX3_pointsOf_17 : decode cX3_pointsOf 17 = .ok (.iload_n 2, 1) := by decide +kernel
theorem dX3_pointsOf_18 : decode cX3_pointsOf 18 = .ok (.iaload, 1) := by decide +kernel
theorem dX3_pointsOf_19 : decode cX3_pointsOf 19 = .ok (.aload_n 0, 1) := by decide +kernel
theorem dX3_pointsOf_20 : decode cX3_pointsOf 20 = .ok (.getfield 22, 3) := by decide +kernel
theorem dX3_pointsOf_23 : decode cX3_pointsOf 23 = .ok (.iload_n 3, 1) := by decide +kernel
theorem dX3_pointsOf_24 : decode cX3_pointsOf 24 = .ok (.invokevirtual 100, 3) := by decide +kernel
theorem dX3_pointsOf_27 : decode cX3_pointsOf 27 = .ok (.imul, 1) := by decide +kernel
theorem dX3_pointsOf_28 : decode cX3_pointsOf 28 = .ok (.aload_n 0, 1) := by decide +kernel
theorem dX3_pointsOf_29 : decode cX3_pointsOf 29 = .ok (.getfield 22, 3) := by decide +kernel
theorem dX3_pointsOf_32 : decode cX3_pointsOf 32 = .ok (.iload_n 3, 1) := by decide +kernel
theorem dX3_pointsOf_33 : decode cX3_pointsOf 33 = .ok (.iload_n 1, 1) := by decide +kernel
theorem dX3_pointsOf_34 : decode cX3_pointsOf 34 = .ok (.invokevirtual 104, 3) := by decide +kernel
theorem dX3_pointsOf_37 : decode cX3_pointsOf 37 = .ok (.imul, 1) := by decide +kernel
theorem dX3_pointsOf_38 : decode cX3_pointsOf 38 = .ok (.ireturn, 1) := by decide +kernel
theorem dX3_total_0 : decode cX3_total 0 = .ok (.aload_n 0, 1) := by decide +kernel
theorem dX3_total_1 : decode cX3_total 1 = .ok (.iload_n 1, 1) := by decide +kernel
theorem dX3_total_2 : decode cX3_total 2 = .ok (.iload_n 2, 1) := by decide +kernel
theorem dX3_total_3 : decode cX3_total 3 = .ok (.invokevirtual 107, 3) := by decide +kernel
theorem dX3_total_6 : decode cX3_total 6 = .ok (.istore_n 3, 1) := by decide +kernel
theorem dX3_total_7 : decode cX3_total 7 = .ok (.iconst 0, 1) := by decide +kernel
theorem dX3_total_8 : decode cX3_total 8 = .ok (.istore 4, 2) := by decide +kernel
theorem dX3_total_10 : decode cX3_total 10 = .ok (.iload 4, 2) := by decide +kernel
theorem dX3_total_12 : decode cX3_total 12 = .ok (.aload_n 0, 1) := by decide +kernel
theorem dX3_total_13 : decode cX3_total 13 = .ok (.getfield 26, 3) := by decide +kernel
theorem dX3_total_16 : decode cX3_total 16 = .ok (.getfield 53, 3) := by decide +kernel
theorem dX3_total_19 : decode cX3_total 19 = .ok (.if_icmp .ge 25, 3) := by decide +kernel
theorem dX3_total_22 : decode cX3_total 22 = .ok (.iload 4, 2) := by decide +kernel
theorem dX3_total_24 : decode cX3_total 24 = .ok (.iload_n 2, 1) := by decide +kernel
theorem dX3_total_25 : decode cX3_total 25 = .ok (.if_icmp .eq 13, 3) := by decide +kernel
theorem dX3_total_28 : decode cX3_total 28 = .ok (.iload_n 3, 1) := by decide +kernel
theorem dX3_total_29 : decode cX3_total 29 = .ok (.aload_n 0, 1) := by decide +kernel
theorem dX3_total_30 : decode cX3_total 30 = .ok (.iload_n 1, 1) := by decide +kernel
theorem dX3_total_31 : decode cX3_total 31 = .ok (.iload 4, 2) := by decide +kernel
theorem dX3_total_33 : decode cX3_total 33 = .ok (.invokevirtual 110, 3) := by decide +kernel
theorem dX3_total_36 : decode cX3_total 36 = .ok (.iadd, 1) := by decide +kernel
theorem dX3_total_37 : decode cX3_total 37 = .ok (.istore_n 3, 1) := by decide +kernel
theorem dX3_total_38 : decode cX3_total 38 = .ok (.iinc 4 1, 3) := by decide +kernel
theorem dX3_total_41 : decode cX3_total 41 = .ok (.goto (-31), 3) := by decide +kernel
theorem dX3_total_44 : decode cX3_total 44 = .ok (.iload_n 3, 1) := by decide +kernel
theorem dX3_total_45 : decode cX3_total 45 = .ok (.ireturn, 1) := by decide +kernel
theorem dX3_nearness_0 : decode cX3_nearness 0 = .ok (.iconst 0, 1) := by decide +kernel
theorem dX3_nearness_1 : decode cX3_nearness 1 = .ok (.istore_n 3, 1) := by decide +kernel
theorem dX3_nearness_2 : decode cX3_nearness 2 = .ok (.iconst (-1), 1) := by decide +kernel
theorem dX3_nearness_3 : decode cX3_nearness 3 = .ok (.istore 4, 2) := by decide +kernel
theorem dX3_nearness_5 : decode cX3_nearness 5 = .ok (.iconst 0, 1) := by decide +kernel
theorem dX3_nearness_6 : decode cX3_nearness 6 = .ok (.istore 5, 2) := by decide +kernel
theorem dX3_nearness_8 : decode cX3_nearness 8 = .ok (.iload 5, 2) := by decide +kernel
theorem dX3_nearness_10 : decode cX3_nearness 10 = .ok (.aload_n 0, 1) := by decide +kernel
theorem dX3_nearness_11 : decode cX3_nearness 11 = .ok (.getfield 26, 3) := by decide +kernel
theorem dX3_nearness_14 : decode cX3_nearness 14 = .ok (.getfield 53, 3) := by decide +kernel
theorem dX3_nearness_17 : decode cX3_nearness 17 = .ok (.if_icmp .ge 87, 3) := by decide +kernel
theorem dX3_nearness_20 : decode cX3_nearness 20 = .ok (.aload_n 0, 1) := by decide +kernel
theorem dX3_nearness_21 : decode cX3_nearness 21 = .ok (.getfield 26, 3) := by decide +kernel
theorem dX3_nearness_24 : decode cX3_nearness 24 = .ok (.getfield 113, 3) := by decide +kernel
theorem dX3_nearness_27 : decode cX3_nearness 27 = .ok (.ifCond .le 77, 3) := by decide +kernel
theorem dX3_nearness_30 : decode cX3_nearness 30 = .ok (.iload 5, 2) := by decide +kernel
theorem dX3_nearness_32 : decode cX3_nearness 32 = .ok (.iload_n 2, 1) := by decide +kernel
theorem dX3_nearness_33 : decode cX3_nearness 33 = .ok (.if_icmp .ne 6, 3) := by decide +kernel
theorem dX3_nearness_36 : decode cX3_nearness 36 = .ok (.goto 62, 3) := by decide +kernel
theorem dX3_nearness_39 : decode cX3_nearness 39 = .ok (.iload 4, 2) := by decide +kernel
theorem dX3_nearness_41 : decode cX3_nearness 41 = .ok (.iconst (-1), 1) := by decide +kernel
theorem dX3_nearness_42 : decode cX3_nearness 42 = .ok (.if_icmp .eq 52, 3) := by decide +kernel
theorem dX3_nearness_45 : decode cX3_nearness 45 = .ok (.aload_n 0, 1) := by decide +kernel
theorem dX3_nearness_46 : decode cX3_nearness 46 = .ok (.iload_n 1, 1) := by decide +kernel
theorem dX3_nearness_47 : decode cX3_nearness 47 = .ok (.aload_n 0, 1) := by decide +kernel
theorem dX3_nearness_48 : decode cX3_nearness 48 = .ok (.getfield 26, 3) := by decide +kernel
theorem dX3_nearness_51 : decode cX3_nearness 51 = .ok (.getfield 58, 3) := by decide +kernel
theorem dX3_nearness_54 : decode cX3_nearness 54 = .ok (.iload 4, 2) := by decide +kernel
theorem dX3_nearness_56 : decode cX3_nearness 56 = .ok (.iaload, 1) := by decide +kernel
theorem dX3_nearness_57 : decode cX3_nearness 57 = .ok (.aload_n 0, 1) := by decide +kernel
theorem dX3_nearness_58 : decode cX3_nearness 58 = .ok (.getfield 26, 3) := by decide +kernel
theorem dX3_nearness_61 : decode cX3_nearness 61 = .ok (.getfield 58, 3) := by decide +kernel
theorem dX3_nearness_64 : decode cX3_nearness 64 = .ok (.iload 5, 2) := by decide +kernel
theorem dX3_nearness_66 : decode cX3_nearness 66 = .ok (.iaload, 1) := by decide +kernel
theorem dX3_nearness_67 : decode cX3_nearness 67 = .ok (.invokevirtual 116, 3) := by decide +kernel
theorem dX3_nearness_70 : decode cX3_nearness 70 = .ok (.istore 6, 2) := by decide +kernel
theorem dX3_nearness_72 : decode cX3_nearness 72 = .ok (.iload_n 3, 1) := by decide +kernel
theorem dX3_nearness_73 : decode cX3_nearness 73 = .ok (.bipush 50, 2) := by decide +kernel
theorem dX3_nearness_75 : decode cX3_nearness 75 = .ok (.iconst 0, 1) := by decide +kernel
theorem dX3_nearness_76 : decode cX3_nearness 76 = .ok (.aload_n 0, 1) := by decide +kernel
theorem dX3_nearness_77 : decode cX3_nearness 77 = .ok (.getfield 26, 3) := by decide +kernel
theorem dX3_nearness_80 : decode cX3_nearness 80 = .ok (.getfield 113, 3) := by decide +kernel
theorem dX3_nearness_83 : decode cX3_nearness 83 = .ok (.iconst 1, 1) := by decide +kernel
theorem dX3_nearness_84 : decode cX3_nearness 84 = .ok (.iadd, 1) := by decide +kernel
theorem dX3_nearness_85 : decode cX3_nearness 85 = .ok (.iload 6, 2) := by decide +kernel
theorem dX3_nearness_87 : decode cX3_nearness 87 = .ok (.isub, 1) := by decide +kernel
theorem dX3_nearness_88 : decode cX3_nearness 88 = .ok (.invokestatic 120, 3) := by decide +kernel
theorem dX3_nearness_91 : decode cX3_nearness 91 = .ok (.imul, 1) := by decide +kernel
theorem dX3_nearness_92 : decode cX3_nearness 92 = .ok (.iadd, 1) := by decide +kernel
theorem dX3_nearness_93 : decode cX3_nearness 93 = .ok (.istore_n 3, 1) := by decide +kernel
theorem dX3_nearness_94 : decode cX3_nearness 94 = .ok (.iload 5, 2) := by decide +kernel
theorem dX3_nearness_96 : decode cX3_nearness 96 = .ok (.istore 4, 2) := by decide +kernel
theorem dX3_nearness_98 : decode cX3_nearness 98 = .ok (.iinc 5 1, 3) := by decide +kernel
theorem dX3_nearness_101 : decode cX3_nearness 101 = .ok (.goto (-93), 3) := by decide +kernel
theorem dX3_nearness_104 : decode cX3_nearness 104 = .ok (.iload_n 3, 1) := by decide +kernel
theorem dX3_nearness_105 : decode cX3_nearness 105 = .ok (.ireturn, 1) := by decide +kernel
theorem dX3_leastDistance_0 : decode cX3_leastDistance 0 = .ok (.sipush 150, 3) := by decide +kernel
theorem dX3_leastDistance_3 : decode cX3_leastDistance 3 = .ok (.istore 4, 2) := by decide +kernel
theorem dX3_leastDistance_5 : decode cX3_leastDistance 5 = .ok (.iconst (-1), 1) := by decide +kernel
theorem dX3_leastDistance_6 : decode cX3_leastDistance 6 = .ok (.istore 5, 2) := by decide +kernel
theorem dX3_leastDistance_8 : decode cX3_leastDistance 8 = .ok (.iconst (-1), 1) := by decide +kernel
theorem dX3_leastDistance_9 : decode cX3_leastDistance 9 = .ok (.istore 6, 2) := by decide +kernel
theorem dX3_leastDistance_11 : decode cX3_leastDistance 11 = .ok (.aload_n 0, 1) := by decide +kernel
theorem dX3_leastDistance_12 : decode cX3_leastDistance 12 = .ok (.getfield 22, 3) := by decide +kernel
theorem dX3_leastDistance_15 : decode cX3_leastDistance 15 = .ok (.getfield 85, 3) := by decide +kernel
theorem dX3_leastDistance_18 : decode cX3_leastDistance 18 = .ok (.iload_n 1, 1) := by decide +kernel
theorem dX3_leastDistance_19 : decode cX3_leastDistance 19 = .ok (.aaload, 1) := by decide +kernel
theorem dX3_leastDistance_20 : decode cX3_leastDistance 20 = .ok (.astore 7, 2) := by decide +kernel
theorem dX3_leastDistance_22 : decode cX3_leastDistance 22 = .ok (.iconst 0, 1) := by decide +kernel
theorem dX3_leastDistance_23 : decode cX3_leastDistance 23 = .ok (.istore 8, 2) := by decide +kernel
theorem dX3_leastDistance_25 : decode cX3_leastDistance 25 = .ok (.iload 8, 2) := by decide +kernel
theorem dX3_leastDistance_27 : decode cX3_leastDistance 27 = .ok (.aload_n 0, 1) := by decide +kernel
theorem dX3_leastDistance_28 : decode cX3_leastDistance 28 = .ok (.getfield 22, 3) := by decide +kernel
theorem dX3_leastDistance_31 : decode cX3_leastDistance 31 = .ok (.getfield 94, 3) := by decide +kernel
theorem dX3_leastDistance_34 : decode cX3_leastDistance 34 = .ok (.iload_n 1, 1) := by decide +kernel
theorem dX3_leastDistance_35 : decode cX3_leastDistance 35 = .ok (.iaload, 1) := by decide +kernel
theorem dX3_leastDistance_36 : decode cX3_leastDistance 36 = .ok (.if_icmp .ge 65, 3) := by decide +kernel
theorem dX3_leastDistance_39 : decode cX3_leastDistance 39 = .ok (.aload 7, 2) := by decide +kernel
theorem dX3_leastDistance_41 : decode cX3_leastDistance 41 = .ok (.iload 8, 2) := by decide +kernel
theorem dX3_leastDistance_43 : decode cX3_leastDistance 43 = .ok (.iaload, 1) := by decide +kernel
theorem dX3_leastDistance_44 : decode cX3_leastDistance 44 = .ok (.iload_n 2, 1) := by decide +kernel
theorem dX3_leastDistance_45 : decode cX3_leastDistance 45 = .ok (.if_icmp .ne 10, 3) := by decide +kernel
theorem dX3_leastDistance_48 : decode cX3_leastDistance 48 = .ok (.iload 8, 2) := by decide +kernel
theorem dX3_leastDistance_50 : decode cX3_leastDistance 50 = .ok (.istore 5, 2) := by decide +kernel
theorem dX3_leastDistance_52 : decode cX3_leastDistance 52 = .ok (.goto 16, 3) := by decide +kernel
theorem dX3_leastDistance_55 : decode cX3_leastDistance 55 = .ok (.aload 7, 2) := by decide +kernel
theorem dX3_leastDistance_57 : decode cX3_leastDistance 57 = .ok (.iload 8, 2) := by decide +kernel
theorem dX3_leastDistance_59 : decode cX3_leastDistance 59 = .ok (.iaload, 1) := by decide +kernel
theorem dX3_leastDistance_60 : decode cX3_leastDistance 60 = .ok (.iload_n 3, 1) := by decide +kernel
theorem dX3_leastDistance_61 : decode cX3_leastDistance 61 = .ok (.if_icmp .ne 7, 3) := by decide +kernel
theorem dX3_leastDistance_64 : decode cX3_leastDistance 64 = .ok (.iload 8, 2) := by decide +kernel
theorem dX3_leastDistance_66 : decode cX3_leastDistance 66 = .ok (.istore 6, 2) := by decide +kernel
theorem dX3_leastDistance_68 : decode cX3_leastDistance 68 = .ok (.iload 5, 2) := by decide +kernel
theorem dX3_leastDistance_70 : decode cX3_leastDistance 70 = .ok (.iconst (-1), 1) := by decide +kernel
theorem dX3_leastDistance_71 : decode cX3_leastDistance 71 = .ok (.if_icmp .eq 24, 3) := by decide +kernel
theorem dX3_leastDistance_74 : decode cX3_leastDistance 74 = .ok (.iload 6, 2) := by decide +kernel
theorem dX3_leastDistance_76 : decode cX3_leastDistance 76 = .ok (.iconst (-1), 1) := by decide +kernel
theorem dX3_leastDistance_77 : decode cX3_leastDistance 77 = .ok (.if_icmp .eq 18, 3) := by decide +kernel
theorem dX3_leastDistance_80 : decode cX3_leastDistance 80 = .ok (.iload 4, 2) := by decide +kernel
theorem dX3_leastDistance_82 : decode cX3_leastDistance 82 = .ok (.iload 5, 2) := by decide +kernel
theorem dX3_leastDistance_84 : decode cX3_leastDistance 84 = .ok (.iload 6, 2) := by decide +kernel
theorem dX3_leastDistance_86 : decode cX3_leastDistance 86 = .ok (.isub, 1) := by decide +kernel
theorem dX3_leastDistance_87 : decode cX3_leastDistance 87 = .ok (.invokestatic 125, 3) := by decide +kernel
theorem dX3_leastDistance_90 : decode cX3_leastDistance 90 = .ok (.invokestatic 128, 3) := by decide +kernel
theorem dX3_leastDistance_93 : decode cX3_leastDistance 93 = .ok (.istore 4, 2) := by decide +kernel
theorem dX3_leastDistance_95 : decode cX3_leastDistance 95 = .ok (.iinc 8 1, 3) := by decide +kernel
theorem dX3_leastDistance_98 : decode cX3_leastDistance 98 = .ok (.goto (-73), 3) := by decide +kernel
theorem dX3_leastDistance_101 : decode cX3_leastDistance 101 = .ok (.iload 4, 2) := by decide +kernel
theorem dX3_leastDistance_103 : decode cX3_leastDistance 103 = .ok (.ireturn, 1) := by decide +kernel
theorem dX3_findWindow_0 : decode cX3_findWindow 0 = .ok (.aload_n 0, 1) := by decide +kernel
theorem dX3_findWindow_1 : decode cX3_findWindow 1 = .ok (.iconst (-1), 1) := by decide +kernel
theorem dX3_findWindow_2 : decode cX3_findWindow 2 = .ok (.putfield 15, 3) := by decide +kernel
theorem dX3_findWindow_5 : decode cX3_findWindow 5 = .ok (.aload_n 0, 1) := by decide +kernel
theorem dX3_findWindow_6 : decode cX3_findWindow 6 = .ok (.iconst 0, 1) := by decide +kernel
theorem dX3_findWindow_7 : decode cX3_findWindow 7 = .ok (.putfield 19, 3) := by decide +kernel
theorem dX3_findWindow_10 : decode cX3_findWindow 10 = .ok (.iconst 0, 1) := by decide +kernel
theorem dX3_findWindow_11 : decode cX3_findWindow 11 = .ok (.istore_n 2, 1) := by decide +kernel
theorem dX3_findWindow_12 : decode cX3_findWindow 12 = .ok (.iload_n 2, 1) := by decide +kernel
theorem dX3_findWindow_13 : decode cX3_findWindow 13 = .ok (.aload_n 0, 1) := by decide +kernel
theorem dX3_findWindow_14 : decode cX3_findWindow 14 = .ok (.getfield 26, 3) := by decide +kernel
theorem dX3_findWindow_17 : decode cX3_findWindow 17 = .ok (.getfield 53, 3) := by decide +kernel
theorem dX3_findWindow_20 : decode cX3_findWindow 20 = .ok (.if_icmp .ge 16, 3) := by decide +kernel
theorem dX3_findWindow_23 : decode cX3_findWindow 23 = .ok (.aload_n 0, 1) := by decide +kernel
theorem dX3_findWindow_24 : decode cX3_findWindow 24 = .ok (.getfield 9, 3) := by decide +kernel
theorem dX3_findWindow_27 : decode cX3_findWindow 27 = .ok (.iload_n 2, 1) := by decide +kernel
theorem dX3_findWindow_28 : decode cX3_findWindow 28 = .ok (.iconst (-1), 1) := by decide +kernel
theorem dX3_findWindow_29 : decode cX3_findWindow 29 = .ok (.iastore, 1) := by decide +kernel
theorem dX3_findWindow_30 : decode cX3_findWindow 30 = .ok (.iinc 2 1, 3) := by decide +kernel
theorem dX3_findWindow_33 : decode cX3_findWindow 33 = .ok (.goto (-21), 3) := by decide +kernel
theorem dX3_findWindow_36 : decode cX3_findWindow 36 = .ok (.iconst 0, 1) := by decide +kernel
theorem dX3_findWindow_37 : decode cX3_findWindow 37 = .ok (.istore_n 2, 1) := by decide +kernel
theorem dX3_findWindow_38 : decode cX3_findWindow 38 = .ok (.iload_n 2, 1) := by decide +kernel
theorem dX3_findWindow_39 : decode cX3_findWindow 39 = .ok (.aload_n 0, 1) := by decide +kernel
theorem dX3_findWindow_40 : decode cX3_findWindow 40 = .ok (.getfield 22, 3) := by decide +kernel
theorem dX3_findWindow_43 : decode cX3_findWindow 43 = .ok (.getfield 94, 3) := by decide +kernel
theorem dX3_findWindow_46 : decode cX3_findWindow 46 = .ok (.iload_n 1, 1) := by decide +kernel
theorem dX3_findWindow_47 : decode cX3_findWindow 47 = .ok (.iaload, 1) := by decide +kernel
theorem dX3_findWindow_48 : decode cX3_findWindow 48 = .ok (.if_icmp .ge 71, 3) := by decide +kernel
theorem dX3_findWindow_51 : decode cX3_findWindow 51 = .ok (.aload_n 0, 1) := by decide +kernel
theorem dX3_findWindow_52 : decode cX3_findWindow 52 = .ok (.aload_n 0, 1) := by decide +kernel
theorem dX3_findWindow_53 : decode cX3_findWindow 53 = .ok (.getfield 22, 3) := by decide +kernel
theorem dX3_findWindow_56 : decode cX3_findWindow 56 = .ok (.getfield 85, 3) := by decide +kernel
theorem dX3_findWindow_59 : decode cX3_findWindow 59 = .ok (.iload_n 1, 1) := by decide +kernel
theorem dX3_findWindow_60 : decode cX3_findWindow 60 = .ok (.aaload, 1) := by decide +kernel
theorem dX3_findWindow_61 : decode cX3_findWindow 61 = .ok (.iload_n 2, 1) := by decide +kernel
theorem dX3_findWindow_62 : decode cX3_findWindow 62 = .ok (.iaload, 1) := by decide +kernel
theorem dX3_findWindow_63 : decode cX3_findWindow 63 = .ok (.iload_n 2, 1) := by decide +kernel
theorem dX3_findWindow_64 : decode cX3_findWindow 64 = .ok (.invokevirtual 131, 3) := by decide +kernel
theorem dX3_findWindow_67 : decode cX3_findWindow 67 = .ok (.aload_n 0, 1) := by decide +kernel
theorem dX3_findWindow_68 : decode cX3_findWindow 68 = .ok (.iload_n 1, 1) := by decide +kernel
theorem dX3_findWindow_69 : decode cX3_findWindow 69 = .ok (.invokevirtual 135, 3) := by decide +kernel
theorem dX3_findWindow_72 : decode cX3_findWindow 72 = .ok (.istore_n 3, 1) := by decide +kernel
theorem dX3_findWindow_73 : decode cX3_findWindow 73 = .ok (.iload_n 2, 1) := by decide +kernel
theorem dX3_findWindow_74 : decode cX3_findWindow 74 = .ok (.iload_n 3, 1) := by decide +kernel
theorem dX3_findWindow_75 : decode cX3_findWindow 75 = .ok (.isub, 1) := by decide +kernel
theorem dX3_findWindow_76 : decode cX3_findWindow 76 = .ok (.iconst 1, 1) := by decide +kernel
theorem dX3_findWindow_77 : decode cX3_findWindow 77 = .ok (.iadd, 1) := by decide +kernel
theorem dX3_findWindow_78 : decode cX3_findWindow 78 = .ok (.istore 4, 2) := by decide +kernel
theorem dX3_findWindow_80 : decode cX3_findWindow 80 = .ok (.iload_n 3, 1) := by decide +kernel
theorem dX3_findWindow_81 : decode cX3_findWindow 81 = .ok (.iconst (-1), 1) := by decide +kernel
theorem dX3_findWindow_82 : decode cX3_findWindow 82 = .ok (.if_icmp .eq 31, 3) := by decide +kernel
theorem dX3_findWindow_85 : decode cX3_findWindow 85 = .ok (.aload_n 0, 1) := by decide +kernel
theorem dX3_findWindow_86 : decode cX3_findWindow 86 = .ok (.getfield 15, 3) := by decide +kernel
theorem dX3_findWindow_89 : decode cX3_findWindow 89 = .ok (.iconst (-1), 1) := by decide +kernel
theorem dX3_findWindow_90 : decode cX3_findWindow 90 = .ok (.if_icmp .eq 12, 3) := by decide +kernel
theorem dX3_findWindow_93 : decode cX3_findWindow 93 = .ok (.iload 4, 2) := by decide +kernel
theorem dX3_findWindow_95 : decode cX3_findWindow 95 = .ok (.aload_n 0, 1) := by decide +kernel
theorem dX3_findWindow_96 : decode cX3_findWindow 96 = .ok (.getfield 19, 3) := by decide +kernel
theorem dX3_findWindow_99 : decode cX3_findWindow 99 = .ok (.if_icmp .ge 14, 3) := by decide +kernel
theorem dX3_findWindow_102 : decode cX3_findWindow 102 = .ok (.aload_n 0, 1) := by decide +kernel
theorem dX3_findWindow_103 : decode cX3_findWindow 103 = .ok (.iload_n 3, 1) := by decide +kernel
theorem dX3_findWindow_104 : decode cX3_findWindow 104 = .ok (.putfield 15, 3) := by decide +kernel
theorem dX3_findWindow_107 : decode cX3_findWindow 107 = .ok (.aload_n 0, 1) := by decide +kernel
theorem dX3_findWindow_108 : decode cX3_findWindow 108 = .ok (.iload 4, 2) := by decide +kernel
theorem dX3_findWindow_110 : decode cX3_findWindow 110 = .ok (.putfield 19, 3) := by decide +kernel
theorem dX3_findWindow_113 : decode cX3_findWindow 113 = .ok (.iinc 2 1, 3) := by decide +kernel
theorem dX3_findWindow_116 : decode cX3_findWindow 116 = .ok (.goto (-78), 3) := by decide +kernel
theorem dX3_findWindow_119 : decode cX3_findWindow 119 = .ok (.return_, 1) := by decide +kernel
theorem dX3_noteSeen_0 : decode cX3_noteSeen 0 = .ok (.iconst 0, 1) := by decide +kernel
theorem dX3_noteSeen_1 : decode cX3_noteSeen 1 = .ok (.istore_n 3, 1) := by decide +kernel
theorem dX3_noteSeen_2 : decode cX3_noteSeen 2 = .ok (.iload_n 3, 1) := by decide +kernel
theorem dX3_noteSeen_3 : decode cX3_noteSeen 3 = .ok (.aload_n 0, 1) := by decide +kernel
theorem dX3_noteSeen_4 : decode cX3_noteSeen 4 = .ok (.getfield 26, 3) := by decide +kernel
theorem dX3_noteSeen_7 : decode cX3_noteSeen 7 = .ok (.getfield 53, 3) := by decide +kernel
theorem dX3_noteSeen_10 : decode cX3_noteSeen 10 = .ok (.if_icmp .ge 29, 3) := by decide +kernel
theorem dX3_noteSeen_13 : decode cX3_noteSeen 13 = .ok (.aload_n 0, 1) := by decide +kernel
theorem dX3_noteSeen_14 : decode cX3_noteSeen 14 = .ok (.getfield 26, 3) := by decide +kernel
theorem dX3_noteSeen_17 : decode cX3_noteSeen 17 = .ok (.getfield 58, 3) := by decide +kernel
theorem dX3_noteSeen_20 : decode cX3_noteSeen 20 = .ok (.iload_n 3, 1) := by decide +kernel
theorem dX3_noteSeen_21 : decode cX3_noteSeen 21 = .ok (.iaload, 1) := by decide +kernel
theorem dX3_noteSeen_22 : decode cX3_noteSeen 22 = .ok (.iload_n 1, 1) := by decide +kernel
theorem dX3_noteSeen_23 : decode cX3_noteSeen 23 = .ok (.if_icmp .ne 10, 3) := by decide +kernel
theorem dX3_noteSeen_26 : decode cX3_noteSeen 26 = .ok (.aload_n 0, 1) := by decide +kernel
theorem dX3_noteSeen_27 : decode cX3_noteSeen 27 = .ok (.getfield 9, 3) := by decide +kernel
theorem dX3_noteSeen_30 : decode cX3_noteSeen 30 = .ok (.iload_n 3, 1) := by decide +kernel
theorem dX3_noteSeen_31 : decode cX3_noteSeen 31 = .ok (.iload_n 2, 1) := by decide +kernel
theorem dX3_noteSeen_32 : decode cX3_noteSeen 32 = .ok (.iastore, 1) := by decide +kernel
theorem dX3_noteSeen_33 : decode cX3_noteSeen 33 = .ok (.iinc 3 1, 3) := by decide +kernel
theorem dX3_noteSeen_36 : decode cX3_noteSeen 36 = .ok (.goto (-34), 3) := by decide +kernel
theorem dX3_noteSeen_39 : decode cX3_noteSeen 39 = .ok (.return_, 1) := by decide +kernel
theorem dX3_longestAgo_0 : decode cX3_longestAgo 0 = .ok (.sipush 150, 3) := by decide +kernel
theorem dX3_longestAgo_3 : decode cX3_longestAgo 3 = .ok (.istore_n 2, 1) := by decide +kernel
theorem dX3_longestAgo_4 : decode cX3_longestAgo 4 = .ok (.iconst 0, 1) := by decide +kernel
theorem dX3_longestAgo_5 : decode cX3_longestAgo 5 = .ok (.istore_n 3, 1) := by decide +kernel
theorem dX3_longestAgo_6 : decode cX3_longestAgo 6 = .ok (.iload_n 3, 1) := by decide +kernel
theorem dX3_longestAgo_7 : decode cX3_longestAgo 7 = .ok (.aload_n 0, 1) := by decide +kernel
theorem dX3_longestAgo_8 : decode cX3_longestAgo 8 = .ok (.getfield 26, 3) := by decide +kernel
theorem dX3_longestAgo_11 : decode cX3_longestAgo 11 = .ok (.getfield 53, 3) := by decide +kernel
theorem dX3_longestAgo_14 : decode cX3_longestAgo 14 = .ok (.if_icmp .ge 37, 3) := by decide +kernel
theorem dX3_longestAgo_17 : decode cX3_longestAgo 17 = .ok (.aload_n 0, 1) := by decide +kernel
theorem dX3_longestAgo_18 : decode cX3_longestAgo 18 = .ok (.iload_n 1, 1) := by decide +kernel
theorem dX3_longestAgo_19 : decode cX3_longestAgo 19 = .ok (.aload_n 0, 1) := by decide +kernel
theorem dX3_longestAgo_20 : decode cX3_longestAgo 20 = .ok (.getfield 26, 3) := by decide +kernel
theorem dX3_longestAgo_23 : decode cX3_longestAgo 23 = .ok (.getfield 58, 3) := by decide +kernel
theorem dX3_longestAgo_26 : decode cX3_longestAgo 26 = .ok (.iload_n 3, 1) := by decide +kernel
theorem dX3_longestAgo_27 : decode cX3_longestAgo 27 = .ok (.iaload, 1) := by decide +kernel
theorem dX3_longestAgo_28 : decode cX3_longestAgo 28 = .ok (.invokevirtual 61, 3) := by decide +kernel
theorem dX3_longestAgo_31 : decode cX3_longestAgo 31 = .ok (.ifCond .eq 14, 3) := by decide +kernel
theorem dX3_longestAgo_34 : decode cX3_longestAgo 34 = .ok (.iload_n 2, 1) := by decide +kernel
theorem dX3_longestAgo_35 : decode cX3_longestAgo 35 = .ok (.aload_n 0, 1) := by decide +kernel
theorem dX3_longestAgo_36 : decode cX3_longestAgo 36 = .ok (.getfield 9, 3) := by decide +kernel
theorem dX3_longestAgo_39 : decode cX3_longestAgo 39 = .ok (.iload_n 3, 1) := by decide +kernel
theorem dX3_longestAgo_40 : decode cX3_longestAgo 40 = .ok (.iaload, 1) := by decide +kernel
theorem dX3_longestAgo_41 : decode cX3_longestAgo 41 = .ok (.invokestatic 128, 3) := by decide +kernel
theorem dX3_longestAgo_44 : decode cX3_longestAgo 44 = .ok (.istore_n 2, 1) := by decide +kernel
theorem dX3_longestAgo_45 : decode cX3_longestAgo 45 = .ok (.iinc 3 1, 3) := by decide +kernel
theorem dX3_longestAgo_48 : decode cX3_longestAgo 48 = .ok (.goto (-42), 3) := by decide +kernel
theorem dX3_longestAgo_51 : decode cX3_longestAgo 51 = .ok (.iload_n 2, 1) := by decide +kernel
theorem dX3_longestAgo_52 : decode cX3_longestAgo 52 = .ok (.sipush 150, 3) := by decide +kernel
theorem dX3_longestAgo_55 : decode cX3_longestAgo 55 = .ok (.if_icmp .ne 7, 3) := by decide +kernel
theorem dX3_longestAgo_58 : decode cX3_longestAgo 58 = .ok (.iconst (-1), 1) := by decide +kernel
theorem dX3_longestAgo_59 : decode cX3_longestAgo 59 = .ok (.goto 4, 3) := by decide +kernel
theorem dX3_longestAgo_62 : decode cX3_longestAgo 62 = .ok (.iload_n 2, 1) := by decide +kernel
theorem dX3_longestAgo_63 : decode cX3_longestAgo 63 = .ok (.ireturn, 1) := by decide +kernel
theorem dX4_init_0 : decode cX4_init 0 = .ok (.aload_n 0, 1) := by decide +kernel
theorem dX4_init_1 : decode cX4_init 1 = .ok (.invokespecial 3, 3) := by decide +kernel
theorem dX4_init_4 : decode cX4_init 4 = .ok (.aload_n 0, 1) := by decide +kernel
theorem dX4_init_5 : decode cX4_init 5 = .ok (.bipush 64, 2) := by decide +kernel
theorem dX4_init_7 : decode cX4_init 7 = .ok (.sipush 150, 3) := by decide +kernel
theorem dX4_init_10 : decode cX4_init 10 = .ok (.multianewarray 9 2, 4) := by decide +kernel
theorem dX4_init_14 : decode cX4_init 14 = .ok (.putfield 11, 3) := by decide +kernel
theorem dX4_init_17 : decode cX4_init 17 = .ok (.aload_n 0, 1) := by decide +kernel
theorem dX4_init_18 : decode cX4_init 18 = .ok (.bipush 64, 2) := by decide +kernel
theorem dX4_init_20 : decode cX4_init 20 = .ok (.newarray .int, 2) := by decide +kernel
theorem dX4_init_22 : decode cX4_init 22 = .ok (.putfield 16, 3) := by decide +kernel
theorem dX4_init_25 : decode cX4_init 25 = .ok (.aload_n 0, 1) := by decide +kernel
theorem dX4_init_26 : decode cX4_init 26 = .ok (.bipush 64, 2) := by decide +kernel
theorem dX4_init_28 : decode cX4_init 28 = .ok (.newarray .int, 2) := by decide +kernel
theorem dX4_init_30 : decode cX4_init 30 = .ok (.putfield 20, 3) := by decide +kernel
theorem dX4_init_33 : decode cX4_init 33 = .ok (.aload_n 0, 1) := by decide +kernel
theorem dX4_init_34 : decode cX4_init 34 = .ok (.iconst 0, 1) := by decide +kernel
theorem dX4_init_35 : decode cX4_init 35 = .ok (.putfield 23, 3) := by decide +kernel
theorem dX4_init_38 : decode cX4_init 38 = .ok (.aload_n 0, 1) := by decide +kernel
theorem dX4_init_39 : decode cX4_init 39 = .ok (.iconst 0, 1) := by decide +kernel
theorem dX4_init_40 : decode cX4_init 40 = .ok (.putfield 27, 3) := by decide +kernel
theorem dX4_init_43 : decode cX4_init 43 = .ok (.aload_n 0, 1) := by decide +kernel
theorem dX4_init_44 : decode cX4_init 44 = .ok (.iconst 0, 1) := by decide +kernel
theorem dX4_init_45 : decode cX4_init 45 = .ok (.putfield 30, 3) := by decide +kernel
theorem dX4_init_48 : decode cX4_init 48 = .ok (.aload_n 0, 1) := by decide +kernel
theorem dX4_init_49 : decode cX4_init 49 = .ok (.iconst 4, 1) := by decide +kernel
theorem dX4_init_50 : decode cX4_init 50 = .ok (.putfield 33, 3) := by decide +kernel
theorem dX4_init_53 : decode cX4_init 53 = .ok (.aload_n 0, 1) := by decide +kernel
theorem dX4_init_54 : decode cX4_init 54 = .ok (.sipush 255, 3) := by decide +kernel
theorem dX4_init_57 : decode cX4_init 57 = .ok (.bipush 64, 2) := by decide +kernel
theorem dX4_init_59 : decode cX4_init 59 = .ok (.multianewarray 9 2, 4) := by decide +kernel
theorem dX4_init_63 : decode cX4_init 63 = .ok (.putfield 36, 3) := by decide +kernel
theorem dX4_init_66 : decode cX4_init 66 = .ok (.aload_n 0, 1) := by decide +kernel
theorem dX4_init_67 : decode cX4_init 67 = .ok (.sipush 255, 3) := by decide +kernel
theorem dX4_init_70 : decode cX4_init 70 = .ok (.bipush 64, 2) := by decide +kernel
theorem dX4_init_72 : decode cX4_init 72 = .ok (.multianewarray 9 2, 4) := by decide +kernel
theorem dX4_init_76 : decode cX4_init 76 = .ok (.putfield 39, 3) := by decide +kernel
theorem dX4_init_79 : decode cX4_init 79 = .ok (.aload_n 0, 1) := by decide +kernel
theorem dX4_init_80 : decode cX4_init 80 = .ok (.sipush 255, 3) := by decide +kernel
theorem dX4_init_83 : decode cX4_init 83 = .ok (.bipush 64, 2) := by decide +kernel
theorem dX4_init_85 : decode cX4_init 85 = .ok (.multianewarray 9 2, 4) := by decide +kernel
theorem dX4_init_89 : decode cX4_init 89 = .ok (.putfield 42, 3) := by decide +kernel
theorem dX4_init_92 : decode cX4_init 92 = .ok (.aload_n 0, 1) := by decide +kernel
theorem dX4_init_93 : decode cX4_init 93 = .ok (.sipush 255, 3) := by decide +kernel
theorem dX4_init_96 : decode cX4_init 96 = .ok (.newarray .int, 2) := by decide +kernel
theorem dX4_init_98 : decode cX4_init 98 = .ok (.putfield 45, 3) := by decide +kernel
theorem dX4_init_101 : decode cX4_init 101 = .ok (.aload_n 0, 1) := by decide +kernel
theorem dX4_init_102 : decode cX4_init 102 = .ok (.sipush 255, 3) := by decide +kernel
theorem dX4_init_105 : decode cX4_init 105 = .ok (.newarray .int, 2) := by decide +kernel
theorem dX4_init_107 : decode cX4_init 107 = .ok (.putfield 48, 3) := by decide +kernel
theorem dX4_init_110 : decode cX4_init 110 = .ok (.aload_n 0, 1) := by decide +kernel
theorem dX4_init_111 : decode cX4_init 111 = .ok (.aload_n 1, 1) := by decide +kernel
theorem dX4_init_112 : decode cX4_init 112 = .ok (.putfield 51, 3) := by decide +kernel
theorem dX4_init_115 : decode cX4_init 115 = .ok (.return_, 1) := by decide +kernel
theorem dX4_holds_0 : decode cX4_holds 0 = .ok (.iload_n 1, 1) := by decide +kernel
theorem dX4_holds_1 : decode cX4_holds 1 = .ok (.ifCond .lt 25, 3) := by decide +kernel
theorem dX4_holds_4 : decode cX4_holds 4 = .ok (.iload_n 1, 1) := by decide +kernel
theorem dX4_holds_5 : decode cX4_holds 5 = .ok (.aload_n 0, 1) := by decide +kernel
theorem dX4_holds_6 : decode cX4_holds 6 = .ok (.getfield 23, 3) := by decide +kernel
theorem dX4_holds_9 : decode cX4_holds 9 = .ok (.if_icmp .ge 17, 3) := by decide +kernel
theorem dX4_holds_12 : decode cX4_holds 12 = .ok (.aload_n 0, 1) := by decide +kernel
theorem dX4_holds_13 : decode cX4_holds 13 = .ok (.getfield 20, 3) := by decide +kernel
theorem dX4_holds_16 : decode cX4_holds 16 = .ok (.iload_n 1, 1) := by decide +kernel
theorem dX4_holds_17 : decode cX4_holds 17 = .ok (.iaload, 1) := by decide +kernel
theorem dX4_holds_18 : decode cX4_holds 18 = .ok (.iconst 2, 1) := by decide +kernel
theorem dX4_holds_19 : decode cX4_holds 19 = .ok (.if_icmp .eq 7, 3) := by decide +kernel
theorem dX4_holds_22 : decode cX4_holds 22 = .ok (.iconst 1, 1) := by decide +kernel
theorem dX4_holds_23 : decode cX4_holds 23 = .ok (.goto 4, 3) := by decide +kernel
theorem dX4_holds_26 : decode cX4_holds 26 = .ok (.iconst 0, 1) := by decide +kernel
theorem dX4_holds_27 : decode cX4_holds 27 = .ok (.ireturn, 1) := by decide +kernel
theorem dX4_isGone_0 : decode cX4_isGone 0 = .ok (.aload_n 0, 1) := by decide +kernel
theorem dX4_isGone_1 : decode cX4_isGone 1 = .ok (.getfield 20, 3) := by decide +kernel
theorem dX4_isGone_4 : decode cX4_isGone 4 = .ok (.iload_n 1, 1) := by decide +kernel
theorem dX4_isGone_5 : decode cX4_isGone 5 = .ok (.iaload, 1) := by decide +kernel
theorem dX4_isGone_6 : decode cX4_isGone 6 = .ok (.iconst 1, 1) := by decide +kernel
theorem dX4_isGone_7 : decode cX4_isGone 7 = .ok (.if_icmp .ne 7, 3) := by decide +kernel
theorem dX4_isGone_10 : decode cX4_isGone 10 = .ok (.iconst 1, 1) := by decide +kernel
theorem dX4_isGone_11 : decode cX4_isGone 11 = .ok (.goto 4, 3) := by decide +kernel
theorem dX4_isGone_14 : decode cX4_isGone 14 = .ok (.iconst 0, 1) := by decide +kernel
theorem dX4_isGone_15 : decode cX4_isGone 15 = .ok (.ireturn, 1) := by decide +kernel
theorem dX4_shelve_0 : decode cX4_shelve 0 = .ok (.aload_n 0, 1) := by decide +kernel
theorem dX4_shelve_1 : decode cX4_shelve 1 = .ok (.getfield 23, 3) := by decide +kernel
theorem dX4_shelve_4 : decode cX4_shelve 4 = .ok (.istore_n 3, 1) := by decide +kernel
theorem dX4_shelve_5 : decode cX4_shelve 5 = .ok (.aload_n 0, 1) := by decide +kernel
theorem dX4_shelve_6 : decode cX4_shelve 6 = .ok (.dup, 1) := by decide +kernel
theorem dX4_shelve_7 : decode cX4_shelve 7 = .ok (.getfield 23, 3) := by decide +kernel
theorem dX4_shelve_10 : decode cX4_shelve 10 = .ok (.iconst 1, 1) := by decide +kernel
theorem dX4_shelve_11 : decode cX4_shelve 11 = .ok (.iadd, 1) := by decide +kernel
theorem dX4_shelve_12 : decode cX4_shelve 12 = .ok (.putfield 23, 3) := by decide +kernel
theorem dX4_shelve_15 : decode cX4_shelve 15 = .ok (.aload_n 0, 1) := by decide +kernel
theorem dX4_shelve_16 : decode cX4_shelve 16 = .ok (.dup, 1) := by decide +kernel
theorem dX4_shelve_17 : decode cX4_shelve 17 = .ok (.getfield 27, 3) := by decide +kernel
theorem dX4_shelve_20 : decode cX4_shelve 20 = .ok (.iconst 1, 1) := by decide +kernel
theorem dX4_shelve_21 : decode cX4_shelve 21 = .ok (.iadd, 1) := by decide +kernel
theorem dX4_shelve_22 : decode cX4_shelve 22 = .ok (.putfield 27, 3) := by decide +kernel
theorem dX4_shelve_25 : decode cX4_shelve 25 = .ok (.aload_n 0, 1) := by decide +kernel
theorem dX4_shelve_26 : decode cX4_shelve 26 = .ok (.getfield 20, 3) := by decide +kernel
theorem dX4_shelve_29 : decode cX4_shelve 29 = .ok (.iload_n 3, 1) := by decide +kernel
theorem dX4_shelve_30 : decode cX4_shelve 30 = .ok (.iconst 0, 1) := by decide +kernel
theorem dX4_shelve_31 : decode cX4_shelve 31 = .ok (.iastore, 1) := by decide +kernel
theorem dX4_shelve_32 : decode cX4_shelve 32 = .ok (.aload_n 0, 1) := by decide +kernel
theorem dX4_shelve_33 : decode cX4_shelve 33 = .ok (.getfield 16, 3) := by decide +kernel
theorem dX4_shelve_36 : decode cX4_shelve 36 = .ok (.iload_n 3, 1) := by decide +kernel
theorem dX4_shelve_37 : decode cX4_shelve 37 = .ok (.iload_n 2, 1) := by decide +kernel
theorem dX4_shelve_38 : decode cX4_shelve 38 = .ok (.iastore, 1) := by decide +kernel
theorem dX4_shelve_39 : decode cX4_shelve 39 = .ok (.iconst 0, 1) := by decide +kernel
theorem dX4_shelve_40 : decode cX4_shelve 40 = .ok (.istore 4, 2) := by decide +kernel
theorem dX4_shelve_42 : decode cX4_shelve 42 = .ok (.iload 4, 2) := by decide +kernel
theorem dX4_shelve_44 : decode cX4_shelve 44 = .ok (.iload_n 2, 1) := by decide +kernel
theorem dX4_shelve_45 : decode cX4_shelve 45 = .ok (.if_icmp .ge 33, 3) := by decide +kernel
theorem dX4_shelve_48 : decode cX4_shelve 48 = .ok (.aload_n 0, 1) := by decide +kernel
theorem dX4_shelve_49 : decode cX4_shelve 49 = .ok (.getfield 11, 3) := by decide +kernel
theorem dX4_shelve_52 : decode cX4_shelve 52 = .ok (.iload_n 3, 1) := by decide +kernel
theorem dX4_shelve_53 : decode cX4_shelve 53 = .ok (.aaload, 1) := by decide +kernel
theorem dX4_shelve_54 : decode cX4_shelve 54 = .ok (.iload 4, 2) := by decide +kernel
theorem dX4_shelve_56 : decode cX4_shelve 56 = .ok (.aload_n 1, 1) := by decide +kernel
theorem dX4_shelve_57 : decode cX4_shelve 57 = .ok (.iload 4, 2) := by decide +kernel
theorem dX4_shelve_59 : decode cX4_shelve 59 = .ok (.iaload, 1) := by decide +kernel
theorem dX4_shelve_60 : decode cX4_shelve 60 = .ok (.iastore, 1) := by decide +kernel
theorem dX4_shelve_61 : decode cX4_shelve 61 = .ok (.aload_n 0, 1) := by decide +kernel
theorem dX4_shelve_62 : decode cX4_shelve 62 = .ok (.aload_n 1, 1) := by decide +kernel
theorem dX4_shelve_63 : decode cX4_shelve 63 = .ok (.iload 4, 2) := by decide +kernel
theorem dX4_shelve_65 : decode cX4_shelve 65 = .ok (.iaload, 1) := by decide +kernel
theorem dX4_shelve_66 : decode cX4_shelve 66 = .ok (.iload_n 3, 1) := by decide +kernel
theorem dX4_shelve_67 : decode cX4_shelve 67 = .ok (.iload 4, 2) := by decide +kernel
theorem dX4_shelve_69 : decode cX4_shelve 69 = .ok (.invokevirtual 55, 3) := by decide +kernel
theorem dX4_shelve_72 : decode cX4_shelve 72 = .ok (.iinc 4 1, 3) := by decide +kernel
theorem dX4_shelve_75 : decode cX4_shelve 75 = .ok (.goto (-33), 3) := by decide +kernel
theorem dX4_shelve_78 : decode cX4_shelve 78 = .ok (.iload_n 3, 1) := by decide +kernel
theorem dX4_shelve_79 : decode cX4_shelve 79 = .ok (.ireturn, 1) := by decide +kernel
theorem dX4_post_0 : decode cX4_post 0 = .ok (.iload_n 3, 1) := by decide +kernel
theorem dX4_post_1 : decode cX4_post 1 = .ok (.iconst 1, 1) := by decide +kernel
theorem dX4_post_2 : decode cX4_post 2 = .ok (.iadd, 1) := by decide +kernel
theorem dX4_post_3 : decode cX4_post 3 = .ok (.istore 4, 2) := by decide +kernel
theorem dX4_post_5 : decode cX4_post 5 = .ok (.aload_n 0, 1) := by decide +kernel
theorem dX4_post_6 : decode cX4_post 6 = .ok (.getfield 36, 3) := by decide +kernel
theorem dX4_post_9 : decode cX4_post 9 = .ok (.iload_n 1, 1) := by decide +kernel
theorem dX4_post_10 : decode cX4_post 10 = .ok (.aaload, 1) := by decide +kernel
theorem dX4_post_11 : decode cX4_post 11 = .ok (.iload_n 2, 1) := by decide +kernel
theorem dX4_post_12 : decode cX4_post 12 = .ok (.iaload, 1) := by decide +kernel
theorem dX4_post_13 : decode cX4_post 13 = .ok (.ifCond .ne 30, 3) := by decide +kernel
theorem dX4_post_16 : decode cX4_post 16 = .ok (.aload_n 0, 1) := by decide +kernel
theorem dX4_post_17 : decode cX4_post 17 = .ok (.getfield 42, 3) := by decide +kernel
theorem dX4_post_20 : decode cX4_post 20 = .ok (.iload_n 1, 1) := by decide +kernel
theorem dX4_post_21 : decode cX4_post 21 = .ok (.aaload, 1) := by decide +kernel
theorem dX4_post_22 : decode cX4_post 22 = .ok (.aload_n 0, 1) := by decide +kernel
theorem dX4_post_23 : decode cX4_post 23 = .ok (.getfield 45, 3) := by decide +kernel
theorem dX4_post_26 : decode cX4_post 26 = .ok (.iload_n 1, 1) := by decide +kernel
theorem dX4_post_27 : decode cX4_post 27 = .ok (.iaload, 1) := by decide +kernel
theorem dX4_post_28 : decode cX4_post 28 = .ok (.iload_n 2, 1) := by decide +kernel
theorem dX4_post_29 : decode cX4_post 29 = .ok (.iastore, 1) := by decide +kernel
theorem dX4_post_30 : decode cX4_post 30 = .ok (.aload_n 0, 1) := by decide +kernel
theorem dX4_post_31 : decode cX4_post 31 = .ok (.getfield 45, 3) := by decide +kernel
theorem dX4_post_34 : decode cX4_post 34 = .ok (.iload_n 1, 1) := by decide +kernel
theorem dX4_post_35 : decode cX4_post 35 = .ok (.dup2, 1) := by decide +kernel
theorem dX4_post_36 : decode cX4_post 36 = .ok (.iaload, 1) := by decide +kernel
theorem dX4_post_37 : decode cX4_post 37 = .ok (.iconst 1, 1) := by decide +kernel
theorem dX4_post_38 : decode cX4_post 38 = .ok (.iadd, 1) := by decide +kernel
theorem dX4_post_39 : decode cX4_post 39 = .ok (.iastore, 1) := by decide +kernel
theorem dX4_post_40 : decode cX4_post 40 = .ok (.goto 13, 3) := by decide +kernel
theorem dX4_post_43 : decode cX4_post 43 = .ok (.iload_n 3, 1) := by decide +kernel
theorem dX4_post_44 : decode cX4_post 44 = .ok (.aload_n 0, 1) := by decide +kernel
theorem dX4_post_45 : decode cX4_post 45 = .ok (.getfield 48, 3) := by decide +kernel
theorem dX4_post_48 : decode cX4_post 48 = .ok (.iload_n 1, 1) := by decide +kernel
theorem dX4_post_49 : decode cX4_post 49 = .ok (.iaload, 1) := by decide +kernel
theorem dX4_post_50 : decode cX4_post 50 = .ok (.isub, 1) := by decide +kernel
theorem dX4_post_51 : decode cX4_post 51 = .ok (.istore 4, 2) := by decide +kernel
theorem dX4_post_53 : decode cX4_post 53 = .ok (.aload_n 0, 1) := by decide +kernel
theorem dX4_post_54 : decode cX4_post 54 = .ok (.getfield 48, 3) := by decide +kernel
theorem dX4_post_57 : decode cX4_post 57 = .ok (.iload_n 1, 1) := by decide +kernel
theorem dX4_post_58 : decode cX4_post 58 = .ok (.iload_n 3, 1) := by decide +kernel
theorem dX4_post_59 : decode cX4_post 59 = .ok (.iastore, 1) := by decide +kernel
theorem dX4_post_60 : decode cX4_post 60 = .ok (.aload_n 0, 1) := by decide +kernel
theorem dX4_post_61 : decode cX4_post 61 = .ok (.getfield 36, 3) := by decide +kernel
theorem dX4_post_64 : decode cX4_post 64 = .ok (.iload_n 1, 1) := by decide +kernel
theorem dX4_post_65 : decode cX4_post 65 = .ok (.aaload, 1) := by decide +kernel
theorem dX4_post_66 : decode cX4_post 66 = .ok (.iload_n 2, 1) := by decide +kernel
theorem dX4_post_67 : decode cX4_post 67 = .ok (.dup2, 1) := by decide +kernel
theorem dX4_post_68 : decode cX4_post 68 = .ok (.iaload, 1) := by decide +kernel
theorem dX4_post_69 : decode cX4_post 69 = .ok (.iconst 1, 1) := by decide +kernel
theorem dX4_post_70 : decode cX4_post 70 = .ok (.iadd, 1) := by decide +kernel
theorem dX4_post_71 : decode cX4_post 71 = .ok (.iastore, 1) := by decide +kernel
theorem dX4_post_72 : decode cX4_post 72 = .ok (.aload_n 0, 1) := by decide +kernel
theorem dX4_post_73 : decode cX4_post 73 = .ok (.getfield 39, 3) := by decide +kernel
theorem dX4_post_76 : decode cX4_post 76 = .ok (.iload_n 1, 1) := by decide +kernel
theorem dX4_post_77 : decode cX4_post 77 = .ok (.aaload, 1) := by decide +kernel
theorem dX4_post_78 : decode cX4_post 78 = .ok (.iload_n 2, 1) := by decide +kernel
theorem dX4_post_79 : decode cX4_post 79 = .ok (.aload_n 0, 1) := by decide +kernel
theorem dX4_post_80 : decode cX4_post 80 = .ok (.getfield 39, 3) := by decide +kernel
theorem dX4_post_83 : decode cX4_post 83 = .ok (.iload_n 1, 1) := by decide +kernel
theorem dX4_post_84 : decode cX4_post 84 = .ok (.aaload, 1) := by decide +kernel
theorem dX4_post_85 : decode cX4_post 85 = .ok (.iload_n 2, 1) := by decide +kernel
theorem dX4_post_86 : decode cX4_post 86 = .ok (.iaload, 1) := by decide +kernel
theorem dX4_post_87 : decode cX4_post 87 = .ok (.iload 4, 2) := by decide +kernel
theorem dX4_post_89 : decode cX4_post 89 = .ok (.invokestatic 59, 3) := by decide +kernel
theorem dX4_post_92 : decode cX4_post 92 = .ok (.iastore, 1) := by decide +kernel
theorem dX4_post_93 : decode cX4_post 93 = .ok (.return_, 1) := by decide +kernel
theorem dX4_takeAway_0 : decode cX4_takeAway 0 = .ok (.aload_n 0, 1) := by decide +kernel
theorem dX4_takeAway_1 : decode cX4_takeAway 1 = .ok (.getfield 20, 3) := by decide +kernel
theorem dX4_takeAway_4 : decode cX4_takeAway 4 = .ok (.iload_n 1, 1) := by decide +kernel
theorem dX4_takeAway_5 : decode cX4_takeAway 5 = .ok (.iconst 1, 1) := by decide +kernel
theorem dX4_takeAway_6 : decode cX4_takeAway 6 = .ok (.iastore, 1) := by decide +kernel
theorem dX4_takeAway_7 : decode cX4_takeAway 7 = .ok (.aload_n 0, 1) := by decide +kernel
theorem dX4_takeAway_8 : decode cX4_takeAway 8 = .ok (.dup, 1) := by decide +kernel
theorem dX4_takeAway_9 : decode cX4_takeAway 9 = .ok (.getfield 30, 3) := by decide +kernel
theorem dX4_takeAway_12 : decode cX4_takeAway 12 = .ok (.iconst 1, 1) := by decide +kernel
theorem dX4_takeAway_13 : decode cX4_takeAway 13 = .ok (.iadd, 1) := by decide +kernel
theorem dX4_takeAway_14 : decode cX4_takeAway 14 = .ok (.putfield 30, 3) := by decide +kernel
theorem dX4_takeAway_17 : decode cX4_takeAway 17 = .ok (.aload_n 0, 1) := by decide +kernel
theorem dX4_takeAway_18 : decode cX4_takeAway 18 = .ok (.getfield 30, 3) := by decide +kernel
theorem dX4_takeAway_21 : decode cX4_takeAway 21 = .ok (.ireturn, 1) := by decide +kernel
theorem dX4_purge_0 : decode cX4_purge 0 = .ok (.aload_n 0, 1) := by decide +kernel
theorem dX4_purge_1 : decode cX4_purge 1 = .ok (.getfield 30, 3) := by decide +kernel
theorem dX4_purge_4 : decode cX4_purge 4 = .ok (.istore_n 1, 1) := by decide +kernel
theorem dX4_purge_5 : decode cX4_purge 5 = .ok (.iconst 0, 1) := by decide +kernel
theorem dX4_purge_6 : decode cX4_purge 6 = .ok (.istore_n 2, 1) := by decide +kernel
theorem dX4_purge_7 : decode cX4_purge 7 = .ok (.iload_n 2, 1) := by decide +kernel
theorem dX4_purge_8 : decode cX4_purge 8 = .ok (.aload_n 0, 1) := by decide +kernel
theorem dX4_purge_9 : decode cX4_purge 9 = .ok (.getfield 23, 3) := by decide +kernel
theorem dX4_purge_12 : decode cX4_purge 12 = .ok (.if_icmp .ge 26, 3) := by decide +kernel
theorem dX4_purge_15 : decode cX4_purge 15 = .ok (.aload_n 0, 1) := by decide +kernel
theorem dX4_purge_16 : decode cX4_purge 16 = .ok (.getfield 20, 3) := by decide +kernel
theorem dX4_purge_19 : decode cX4_purge 19 = .ok (.iload_n 2, 1) := by decide +kernel
theorem dX4_purge_20 : decode cX4_purge 20 = .ok (.iaload, 1) := by decide +kernel
theorem dX4_purge_21 : decode cX4_purge 21 = .ok (.iconst 1, 1) := by decide +kernel
theorem dX4_purge_22 : decode cX4_purge 22 = .ok (.if_icmp .ne 10, 3) := by decide +kernel
theorem dX4_purge_25 : decode cX4_purge 25 = .ok (.aload_n 0, 1) := by decide +kernel
theorem dX4_purge_26 : decode cX4_purge 26 = .ok (.getfield 20, 3) := by decide +kernel
theorem dX4_purge_29 : decode cX4_purge 29 = .ok (.iload_n 2, 1) := by decide +kernel
theorem dX4_purge_30 : decode cX4_purge 30 = .ok (.iconst 2, 1) := by decide +kernel
theorem dX4_purge_31 : decode cX4_purge 31 = .ok (.iastore, 1) := by decide +kernel
theorem dX4_purge_32 : decode cX4_purge 32 = .ok (.iinc 2 1, 3) := by decide +kernel
theorem dX4_purge_35 : decode cX4_purge 35 = .ok (.goto (-28), 3) := by decide +kernel
theorem dX4_purge_38 : decode cX4_purge 38 = .ok (.aload_n 0, 1) := by decide +kernel
theorem dX4_purge_39 : decode cX4_purge 39 = .ok (.dup, 1) := by decide +kernel
theorem dX4_purge_40 : decode cX4_purge 40 = .ok (.getfield 27, 3) := by decide +kernel
theorem dX4_purge_43 : decode cX4_purge 43 = .ok (.iload_n 1, 1) := by decide +kernel
theorem dX4_purge_44 : decode cX4_purge 44 = .ok (.isub, 1) := by decide +kernel
theorem dX4_purge_45 : decode cX4_purge 45 = .ok (.putfield 27, 3) := by decide +kernel
theorem dX4_purge_48 : decode cX4_purge 48 = .ok (.aload_n 0, 1) := by decide +kernel
theorem dX4_purge_49 : decode cX4_purge 49 = .ok (.iconst 0, 1) := by decide +kernel
theorem dX4_purge_50 : decode cX4_purge 50 = .ok (.putfield 30, 3) := by decide +kernel
theorem dX4_purge_53 : decode cX4_purge 53 = .ok (.iconst 0, 1) := by decide +kernel
theorem dX4_purge_54 : decode cX4_purge 54 = .ok (.istore_n 2, 1) := by decide +kernel
theorem dX4_purge_55 : decode cX4_purge 55 = .ok (.iload_n 2, 1) := by decide +kernel
theorem dX4_purge_56 : decode cX4_purge 56 = .ok (.aload_n 0, 1) := by decide +kernel
theorem dX4_purge_57 : decode cX4_purge 57 = .ok (.getfield 51, 3) := by decide +kernel
theorem dX4_purge_60 : decode cX4_purge 60 = .ok (.getfield 65, 3) := by decide +kernel
theorem dX4_purge_63 : decode cX4_purge 63 = .ok (.if_icmp .ge 14, 3) := by decide +kernel
theorem dX4_purge_66 : decode cX4_purge 66 = .ok (.aload_n 0, 1) := by decide +kernel
theorem dX4_purge_67 : decode cX4_purge 67 = .ok (.iload_n 2, 1) := by decide +kernel
theorem dX4_purge_68 : decode cX4_purge 68 = .ok (.invokevirtual 70, 3) := by decide +kernel
theorem dX4_purge_71 : decode cX4_purge 71 = .ok (.iinc 2 1, 3) := by decide +kernel
theorem dX4_purge_74 : decode cX4_purge 74 = .ok (.goto (-19), 3) := by decide +kernel
theorem dX4_purge_77 : decode cX4_purge 77 = .ok (.iload_n 1, 1) := by decide +kernel
theorem dX4_purge_78 : decode cX4_purge 78 = .ok (.ireturn, 1) := by decide +kernel
theorem dX4_keepHeld_0 : decode cX4_keepHeld 0 = .ok (.iconst 0, 1) := by decide +kernel
theorem dX4_keepHeld_1 : decode cX4_keepHeld 1 = .ok (.istore_n 2, 1) := by decide +kernel
theorem dX4_keepHeld_2 : decode cX4_keepHeld 2 = .ok (.iconst 0, 1) := by decide +kernel
theorem dX4_keepHeld_3 : decode cX4_keepHeld 3 = .ok (.istore_n 3, 1) := by decide +kernel
theorem dX4_keepHeld_4 : decode cX4_keepHeld 4 = .ok (.iload_n 3, 1) := by decide +kernel
theorem dX4_keepHeld_5 : decode cX4_keepHeld 5 = .ok (.aload_n 0, 1) := by decide +kernel
theorem dX4_keepHeld_6 : decode cX4_keepHeld 6 = .ok (.getfield 45, 3) := by decide +kernel
theorem dX4_keepHeld_9 : decode cX4_keepHeld 9 = .ok (.iload_n 1, 1) := by decide +kernel
theorem dX4_keepHeld_10 : decode cX4_keepHeld 10 = .ok (.iaload, 1) := by decide +kernel
theorem dX4_keepHeld_11 : decode cX4_keepHeld 11 = .ok (.if_icmp .ge 41, 3) := by decide +kernel
theorem dX4_keepHeld_14 : decode cX4_keepHeld 14 = .ok (.aload_n 0, 1) := by decide +kernel
theorem dX4_keepHeld_15 : decode cX4_keepHeld 15 = .ok (.getfield 42, 3) := by decide +kernel
theorem dX4_keepHeld_18 : decode cX4_keepHeld 18 = .ok (.iload_n 1, 1) := by decide +kernel
theorem dX4_keepHeld_19 : decode cX4_keepHeld 19 = .ok (.aaload, 1) := by decide +kernel
theorem dX4_keepHeld_20 : decode cX4_keepHeld 20 = .ok (.iload_n 3, 1) := by decide +kernel
theorem dX4_keepHeld_21 : decode cX4_keepHeld 21 = .ok (.iaload, 1) := by decide +kernel
theorem dX4_keepHeld_22 : decode cX4_keepHeld 22 = .ok (.istore 4, 2) := by decide +kernel
theorem dX4_keepHeld_24 : decode cX4_keepHeld 24 = .ok (.aload_n 0, 1) := by decide +kernel
theorem dX4_keepHeld_25 : decode cX4_keepHeld 25 = .ok (.iload 4, 2) := by decide +kernel
theorem dX4_keepHeld_27 : decode cX4_keepHeld 27 = .ok (.invokevirtual 74, 3) := by decide +kernel
theorem dX4_keepHeld_30 : decode cX4_keepHeld 30 = .ok (.ifCond .eq 16, 3) := by decide +kernel
theorem dX4_keepHeld_33 : decode cX4_keepHeld 33 = .ok (.aload_n 0, 1) := by decide +kernel
theorem dX4_keepHeld_34 : decode cX4_keepHeld 34 = .ok (.getfield 42, 3) := by decide +kernel
theorem dX4_keepHeld_37 : decode cX4_keepHeld 37 = .ok (.iload_n 1, 1) := by decide +kernel
theorem dX4_keepHeld_38 : decode cX4_keepHeld 38 = .ok (.aaload, 1) := by decide +kernel
theorem dX4_keepHeld_39 : decode cX4_keepHeld 39 = .ok (.iload_n 2, 1) := by decide +kernel
theorem dX4_keepHeld_40 : decode cX4_keepHeld 40 = .ok (.iload 4, 2) := by decide +kernel
theorem dX4_keepHeld_42 : decode cX4_keepHeld 42 = .ok (.iastore, 1) := by decide +kernel
theorem dX4_keepHeld_43 : decode cX4_keepHeld 43 = .ok (.iinc 2 1, 3) := by decide +kernel
theorem dX4_keepHeld_46 : decode cX4_keepHeld 46 = .ok (.iinc 3 1, 3) := by decide +kernel
theorem dX4_keepHeld_49 : decode cX4_keepHeld 49 = .ok (.goto (-45), 3) := by decide +kernel
theorem dX4_keepHeld_52 : decode cX4_keepHeld 52 = .ok (.aload_n 0, 1) := by decide +kernel
theorem dX4_keepHeld_53 : decode cX4_keepHeld 53 = .ok (.getfield 45, 3) := by decide +kernel
theorem dX4_keepHeld_56 : decode cX4_keepHeld 56 = .ok (.iload_n 1, 1) := by decide +kernel
theorem dX4_keepHeld_57 : decode cX4_keepHeld 57 = .ok (.iload_n 2, 1) := by decide +kernel
theorem dX4_keepHeld_58 : decode cX4_keepHeld 58 = .ok (.iastore, 1) := by decide +kernel
theorem dX4_keepHeld_59 : decode cX4_keepHeld 59 = .ok (.return_, 1) := by decide +kernel
theorem dX4_blocksOf_0 : decode cX4_blocksOf 0 = .ok (.aload_n 0, 1) := by decide +kernel
theorem dX4_blocksOf_1 : decode cX4_blocksOf 1 = .ok (.getfield 45, 3) := by decide +kernel
theorem dX4_blocksOf_4 : decode cX4_blocksOf 4 = .ok (.iload_n 1, 1) := by decide +kernel
theorem dX4_blocksOf_5 : decode cX4_blocksOf 5 = .ok (.iaload, 1) := by decide +kernel
theorem dX4_blocksOf_6 : decode cX4_blocksOf 6 = .ok (.iload_n 2, 1) := by decide +kernel
theorem dX4_blocksOf_7 : decode cX4_blocksOf 7 = .ok (.iadd, 1) := by decide +kernel
theorem dX4_blocksOf_8 : decode cX4_blocksOf 8 = .ok (.iconst 1, 1) := by decide +kernel
theorem dX4_blocksOf_9 : decode cX4_blocksOf 9 = .ok (.isub, 1) := by decide +kernel
theorem dX4_blocksOf_10 : decode cX4_blocksOf 10 = .ok (.iload_n 2, 1) := by decide +kernel
theorem dX4_blocksOf_11 : decode cX4_blocksOf 11 = .ok (.iconst 2, 1) := by decide +kernel
theorem dX4_blocksOf_12 : decode cX4_blocksOf 12 = .ok (.invokestatic 59, 3) := by decide +kernel
theorem dX4_blocksOf_15 : decode cX4_blocksOf 15 = .ok (.idiv, 1) := by decide +kernel
theorem dX4_blocksOf_16 : decode cX4_blocksOf 16 = .ok (.ireturn, 1) := by decide +kernel
theorem dX4_blockAt_0 : decode cX4_blockAt 0 = .ok (.iload_n 1, 1) := by decide +kernel
theorem dX4_blockAt_1 : decode cX4_blockAt 1 = .ok (.aload_n 0, 1) := by decide +kernel
theorem dX4_blockAt_2 : decode cX4_blockAt 2 = .ok (.getfield 33, 3) := by decide +kernel
theorem dX4_blockAt_5 : decode cX4_blockAt 5 = .ok (.iconst 2, 1) := by decide +kernel
theorem dX4_blockAt_6 : decode cX4_blockAt 6 = .ok (.invokestatic 59, 3) := by decide +kernel
theorem dX4_blockAt_9 : decode cX4_blockAt 9 = .ok (.idiv, 1) := by decide +kernel
theorem dX4_blockAt_10 : decode cX4_blockAt 10 = .ok (.ireturn, 1) := by decide +kernel
theorem dX4_allPostings_0 : decode cX4_allPostings 0 = .ok (.iconst 0, 1) := by decide +kernel
theorem dX4_allPostings_1 : decode cX4_allPostings 1 = .ok (.istore_n 1, 1) := by decide +kernel
theorem dX4_allPostings_2 : decode cX4_allPostings 2 = .ok (.iconst 0, 1) := by decide +kernel
theorem dX4_allPostings_3 : decode cX4_allPostings 3 = .ok (.istore_n 2, 1) := by decide +kernel
theorem dX4_allPostings_4 : decode cX4_allPostings 4 = .ok (.iload_n 2, 1) := by decide +kernel
theorem dX4_allPostings_5 : decode cX4_allPostings 5 = .ok (.aload_n 0, 1) := by decide +kernel
theorem dX4_allPostings_6 : decode cX4_allPostings 6 = .ok (.getfield 51, 3) := by decide +kernel
theorem dX4_allPostings_9 : decode cX4_allPostings 9 = .ok (.getfield 65, 3) := by decide +kernel
theorem dX4_allPostings_12 : decode cX4_allPostings 12 = .ok (.if_icmp .ge 18, 3) := by decide +kernel
theorem dX4_allPostings_15 : decode cX4_allPostings 15 = .ok (.iload_n 1, 1) := by decide +kernel
theorem dX4_allPostings_16 : decode cX4_allPostings 16 = .ok (.aload_n 0, 1) := by decide +kernel
theorem dX4_allPostings_17 : decode cX4_allPostings 17 = .ok (.getfield 45, 3) := by decide +kernel
theorem dX4_allPostings_20 : decode cX4_allPostings 20 = .ok (.iload_n 2, 1) := by decide +kernel
theorem dX4_allPostings_21 : decode cX4_allPostings 21 = .ok (.iaload, 1) := by decide +kernel
theorem dX4_allPostings_22 : decode cX4_allPostings 22 = .ok (.iadd, 1) := by decide +kernel
theorem dX4_allPostings_23 : decode cX4_allPostings 23 = .ok (.istore_n 1, 1) := by decide +kernel
theorem dX4_allPostings_24 : decode cX4_allPostings 24 = .ok (.iinc 2 1, 3) := by decide +kernel
theorem dX4_allPostings_27 : decode cX4_allPostings 27 = .ok (.goto (-23), 3) := by decide +kernel
theorem dX4_allPostings_30 : decode cX4_allPostings 30 = .ok (.iload_n 1, 1) := by decide +kernel
theorem dX4_allPostings_31 : decode cX4_allPostings 31 = .ok (.ireturn, 1) := by decide +kernel
theorem dX4_gainOf_0 : decode cX4_gainOf 0 = .ok (.aload_n 0, 1) := by decide +kernel
theorem dX4_gainOf_1 : decode cX4_gainOf 1 = .ok (.getfield 36, 3) := by decide +kernel
theorem dX4_gainOf_4 : decode cX4_gainOf 4 = .ok (.iload_n 1, 1) := by decide +kernel
theorem dX4_gainOf_5 : decode cX4_gainOf 5 = .ok (.aaload, 1) := by decide +kernel
theorem dX4_gainOf_6 : decode cX4_gainOf 6 = .ok (.iload_n 2, 1) := by decide +kernel
theorem dX4_gainOf_7 : decode cX4_gainOf 7 = .ok (.iaload, 1) := by decide +kernel
theorem dX4_gainOf_8 : decode cX4_gainOf 8 = .ok (.istore_n 3, 1) := by decide +kernel
theorem dX4_gainOf_9 : decode cX4_gainOf 9 = .ok (.iload_n 3, 1) := by decide +kernel
theorem dX4_gainOf_10 : decode cX4_gainOf 10 = .ok (.sipush 1000, 3) := by decide +kernel
theorem dX4_gainOf_13 : decode cX4_gainOf 13 = .ok (.imul, 1) := by decide +kernel
theorem dX4_gainOf_14 : decode cX4_gainOf 14 = .ok (.iload_n 3, 1) := by decide +kernel
theorem dX4_gainOf_15 : decode cX4_gainOf 15 = .ok (.iconst 1, 1) := by decide +kernel
theorem dX4_gainOf_16 : decode cX4_gainOf 16 = .ok (.iadd, 1) := by decide +kernel
theorem dX4_gainOf_17 : decode cX4_gainOf 17 = .ok (.aload_n 0, 1) := by decide +kernel
theorem dX4_gainOf_18 : decode cX4_gainOf 18 = .ok (.getfield 16, 3) := by decide +kernel
theorem dX4_gainOf_21 : decode cX4_gainOf 21 = .ok (.iload_n 2, 1) := by decide +kernel
theorem dX4_gainOf_22 : decode cX4_gainOf 22 = .ok (.iaload, 1) := by decide +kernel
theorem dX4_gainOf_23 : decode cX4_gainOf 23 = .ok (.iconst 4, 1) := by decide +kernel
theorem dX4_gainOf_24 : decode cX4_gainOf 24 = .ok (.idiv, 1) := by decide +kernel
theorem dX4_gainOf_25 : decode cX4_gainOf 25 = .ok (.iadd, 1) := by decide +kernel
theorem dX4_gainOf_26 : decode cX4_gainOf 26 = .ok (.idiv, 1) := by decide +kernel
theorem dX4_gainOf_27 : decode cX4_gainOf 27 = .ok (.ireturn, 1) := by decide +kernel
theorem dX4_topOf_0 : decode cX4_topOf 0 = .ok (.iconst 0, 1) := by decide +kernel
theorem dX4_topOf_1 : decode cX4_topOf 1 = .ok (.istore_n 2, 1) := by decide +kernel
theorem dX4_topOf_2 : decode cX4_topOf 2 = .ok (.iconst 0, 1) := by decide +kernel
theorem dX4_topOf_3 : decode cX4_topOf 3 = .ok (.istore_n 3, 1) := by decide +kernel
theorem dX4_topOf_4 : decode cX4_topOf 4 = .ok (.iload_n 3, 1) := by decide +kernel
theorem dX4_topOf_5 : decode cX4_topOf 5 = .ok (.aload_n 0, 1) := by decide +kernel
theorem dX4_topOf_6 : decode cX4_topOf 6 = .ok (.getfield 45, 3) := by decide +kernel
theorem dX4_topOf_9 : decode cX4_topOf 9 = .ok (.iload_n 1, 1) := by decide +kernel
theorem dX4_topOf_10 : decode cX4_topOf 10 = .ok (.iaload, 1) := by decide +kernel
theorem dX4_topOf_11 : decode cX4_topOf 11 = .ok (.if_icmp .ge 27, 3) := by decide +kernel
theorem dX4_topOf_14 : decode cX4_topOf 14 = .ok (.iload_n 2, 1) := by decide +kernel
theorem dX4_topOf_15 : decode cX4_topOf 15 = .ok (.aload_n 0, 1) := by decide +kernel
theorem dX4_topOf_16 : decode cX4_topOf 16 = .ok (.iload_n 1, 1) := by decide +kernel
theorem dX4_topOf_17 : decode cX4_topOf 17 = .ok (.aload_n 0, 1) := by decide +kernel
theorem dX4_topOf_18 : decode cX4_topOf 18 = .ok (.getfield 42, 3) := by decide +kernel
theorem dX4_topOf_21 : decode cX4_topOf 21 = .ok (.iload_n 1, 1) := by decide +kernel
theorem dX4_topOf_22 : decode cX4_topOf 22 = .ok (.aaload, 1) := by decide +kernel
theorem dX4_topOf_23 : decode cX4_topOf 23 = .ok (.iload_n 3, 1) := by decide +kernel
theorem dX4_topOf_24 : decode cX4_topOf 24 = .ok (.iaload, 1) := by decide +kernel
theorem dX4_topOf_25 : decode cX4_topOf 25 = .ok (.invokevirtual 78, 3) := by decide +kernel
theorem dX4_topOf_28 : decode cX4_topOf 28 = .ok (.invokestatic 59, 3) := by decide +kernel
theorem dX4_topOf_31 : decode cX4_topOf 31 = .ok (.istore_n 2, 1) := by decide +kernel
theorem dX4_topOf_32 : decode cX4_topOf 32 = .ok (.iinc 3 1, 3) := by decide +kernel
theorem dX4_topOf_35 : decode cX4_topOf 35 = .ok (.goto (-31), 3) := by decide +kernel
theorem dX4_topOf_38 : decode cX4_topOf 38 = .ok (.iload_n 2, 1) := by decide +kernel
theorem dX4_topOf_39 : decode cX4_topOf 39 = .ok (.ireturn, 1) := by decide +kernel
theorem dX4_rareOf_0 : decode cX4_rareOf 0 = .ok (.aload_n 0, 1) := by decide +kernel
theorem dX4_rareOf_1 : decode cX4_rareOf 1 = .ok (.getfield 45, 3) := by decide +kernel
theorem dX4_rareOf_4 : decode cX4_rareOf 4 = .ok (.iload_n 1, 1) := by decide +kernel
theorem dX4_rareOf_5 : decode cX4_rareOf 5 = .ok (.iaload, 1) := by decide +kernel
theorem dX4_rareOf_6 : decode cX4_rareOf 6 = .ok (.ifCond .ne 5, 3) := by decide +kernel
theorem dX4_rareOf_9 : decode cX4_rareOf 9 = .ok (.iconst 0, 1) := by decide +kernel
theorem dX4_rareOf_10 : decode cX4_rareOf 10 = .ok (.ireturn, 1) := by decide +kernel
theorem dX4_rareOf_11 : decode cX4_rareOf 11 = .ok (.iconst 1, 1) := by decide +kernel
theorem dX4_rareOf_12 : decode cX4_rareOf 12 = .ok (.istore_n 2, 1) := by decide +kernel
theorem dX4_rareOf_13 : decode cX4_rareOf 13 = .ok (.aload_n 0, 1) := by decide +kernel
theorem dX4_rareOf_14 : decode cX4_rareOf 14 = .ok (.getfield 27, 3) := by decide +kernel
theorem dX4_rareOf_17 : decode cX4_rareOf 17 = .ok (.aload_n 0, 1) := by decide +kernel
theorem dX4_rareOf_18 : decode cX4_rareOf 18 = .ok (.getfield 45, 3) := by decide +kernel
theorem dX4_rareOf_21 : decode cX4_rareOf 21 = .ok (.iload_n 1, 1) := by decide +kernel
theorem dX4_rareOf_22 : decode cX4_rareOf 22 = .ok (.iaload, 1) := by decide +kernel
theorem dX4_rareOf_23 : decode cX4_rareOf 23 = .ok (.idiv, 1) := by decide +kernel
theorem dX4_rareOf_24 : decode cX4_rareOf 24 = .ok (.istore_n 3, 1) := by decide +kernel
theorem dX4_rareOf_25 : decode cX4_rareOf 25 = .ok (.iload_n 3, 1) := by decide +kernel
theorem dX4_rareOf_26 : decode cX4_rareOf 26 = .ok (.iconst 1, 1) := by decide +kernel
theorem dX4_rareOf_27 : decode cX4_rareOf 27 = .ok (.if_icmp .le 13, 3) := by decide +kernel
theorem dX4_rareOf_30 : decode cX4_rareOf 30 = .ok (.iinc 2 1, 3) := by decide +kernel
theorem dX4_rareOf_33 : decode cX4_rareOf 33 = .ok (.iload_n 3, 1) := by decide +kernel
theorem dX4_rareOf_34 : decode cX4_rareOf 34 = .ok (.iconst 2, 1) := by decide +kernel
theorem dX4_rareOf_35 : decode cX4_rareOf 35 = .ok (.idiv, 1) := by decide +kernel
theorem dX4_rareOf_36 : decode cX4_rareOf 36 = .ok (.istore_n 3, 1) := by decide +kernel
theorem dX4_rareOf_37 : decode cX4_rareOf 37 = .ok (.goto (-12), 3) := by decide +kernel
theorem dX4_rareOf_40 : decode cX4_rareOf 40 = .ok (.iload_n 2, 1) := by decide +kernel
theorem dX4_rareOf_41 : decode cX4_rareOf 41 = .ok (.ireturn, 1) := by decide +kernel
theorem dX4_standsOften_0 : decode cX4_standsOften 0 = .ok (.iconst 0, 1) := by decide +kernel
theorem dX4_standsOften_1 : decode cX4_standsOften 1 = .ok (.istore_n 2, 1) := by decide +kernel
theorem dX4_standsOften_2 : decode cX4_standsOften 2 = .ok (.iconst 0, 1) := by decide +kernel
theorem dX4_standsOften_3 : decode cX4_standsOften 3 = .ok (.istore_n 3, 1) := by decide +kernel
theorem dX4_standsOften_4 : decode cX4_standsOften 4 = .ok (.iload_n 3, 1) := by decide +kernel
theorem dX4_standsOften_5 : decode cX4_standsOften 5 = .ok (.aload_n 0, 1) := by decide +kernel
theorem dX4_standsOften_6 : decode cX4_standsOften 6 = .ok (.getfield 45, 3) := by decide +kernel
theorem dX4_standsOften_9 : decode cX4_standsOften 9 = .ok (.iload_n 1, 1) := by decide +kernel
theorem dX4_standsOften_10 : decode cX4_standsOften 10 = .ok (.iaload, 1) := by decide +kernel
theorem dX4_standsOften_11 : decode cX4_standsOften 11 = .ok (.if_icmp .ge 27, 3) := by decide +kernel
theorem dX4_standsOften_14 : decode cX4_standsOften 14 = .ok (.iload_n 2, 1) := by decide +kernel
theorem dX4_standsOften_15 : decode cX4_standsOften 15 = .ok (.aload_n 0, 1) := by decide +kernel
theorem dX4_standsOften_16 : decode cX4_standsOften 16 = .ok (.getfield 36, 3) := by decide +kernel
theorem dX4_standsOften_19 : decode cX4_standsOften 19 = .ok (.iload_n 1, 1) := by decide +kernel
theorem dX4_standsOften_20 : decode cX4_standsOften 20 = .ok (.aaload, 1) := by decide +kernel
theorem dX4_standsOften_21 : decode cX4_standsOften 21 = .ok (.aload_n 0, 1) := by decide +kernel
theorem dX4_standsOften_22 : decode cX4_standsOften 22 = .ok (.getfield 42, 3) := by decide +kernel
theorem dX4_standsOften_25 : decode cX4_standsOften 25 = .ok (.iload_n 1, 1) := by decide +kernel
theorem dX4_standsOften_26 : decode cX4_standsOften 26 = .ok (.aaload, 1) := by decide +kernel
theorem dX4_standsOften_27 : decode cX4_standsOften 27 = .ok (.iload_n 3, 1) := by decide +kernel
theorem dX4_standsOften_28 : decode cX4_standsOften 28 = .ok (.iaload, 1) := by decide +kernel
theorem dX4_standsOften_29 : decode cX4_standsOften 29 = .ok (.iaload, 1) := by decide +kernel
theorem dX4_standsOften_30 : decode cX4_standsOften 30 = .ok (.iadd, 1) := by decide +kernel
theorem dX4_standsOften_31 : decode cX4_standsOften 31 = .ok (.istore_n 2, 1) := by decide +kernel
theorem dX4_standsOften_32 : decode cX4_standsOften 32 = .ok (.iinc 3 1, 3) := by decide +kernel
theorem dX4_standsOften_35 : decode cX4_standsOften 35 = .ok (.goto (-31), 3) := by decide +kernel
theorem dX4_standsOften_38 : decode cX4_standsOften 38 = .ok (.iload_n 2, 1) := by decide +kernel
theorem dX4_standsOften_39 : decode cX4_standsOften 39 = .ok (.ireturn, 1) := by decide +kernel
theorem dX4_positionOf_0 : decode cX4_positionOf 0 = .ok (.iconst 0, 1) := by decide +kernel
theorem dX4_positionOf_1 : decode cX4_positionOf 1 = .ok (.istore 4, 2) := by decide +kernel
theorem dX4_positionOf_3 : decode cX4_positionOf 3 = .ok (.iconst 0, 1) := by decide +kernel
theorem dX4_positionOf_4 : decode cX4_positionOf 4 = .ok (.istore 5, 2) := by decide +kernel
theorem dX4_positionOf_6 : decode cX4_positionOf 6 = .ok (.iload 5, 2) := by decide +kernel
theorem dX4_positionOf_8 : decode cX4_positionOf 8 = .ok (.aload_n 0, 1) := by decide +kernel
theorem dX4_positionOf_9 : decode cX4_positionOf 9 = .ok (.getfield 16, 3) := by decide +kernel
theorem dX4_positionOf_12 : decode cX4_positionOf 12 = .ok (.iload_n 2, 1) := by decide +kernel
theorem dX4_positionOf_13 : decode cX4_positionOf 13 = .ok (.iaload, 1) := by decide +kernel
theorem dX4_positionOf_14 : decode cX4_positionOf 14 = .ok (.if_icmp .ge 34, 3) := by decide +kernel
theorem dX4_positionOf_17 : decode cX4_positionOf 17 = .ok (.aload_n 0, 1) := by decide +kernel
theorem dX4_positionOf_18 : decode cX4_positionOf 18 = .ok (.getfield 11, 3) := by decide +kernel
theorem dX4_positionOf_21 : decode cX4_positionOf 21 = .ok (.iload_n 2, 1) := by decide +kernel
theorem dX4_positionOf_22 : decode cX4_positionOf 22 = .ok (.aaload, 1) := by decide +kernel
theorem dX4_positionOf_23 : decode cX4_positionOf 23 = .ok (.iload 5, 2) := by decide +kernel
theorem dX4_positionOf_25 : decode cX4_positionOf 25 = .ok (.iaload, 1) := by decide +kernel
theorem dX4_positionOf_26 : decode cX4_positionOf 26 = .ok (.iload_n 1, 1) := by decide +kernel
theorem dX4_positionOf_27 : decode cX4_positionOf 27 = .ok (.if_icmp .ne 15, 3) := by decide +kernel
theorem dX4_positionOf_30 : decode cX4_positionOf 30 = .ok (.iload 4, 2) := by decide +kernel
theorem dX4_positionOf_32 : decode cX4_positionOf 32 = .ok (.iload_n 3, 1) := by decide +kernel
theorem dX4_positionOf_33 : decode cX4_positionOf 33 = .ok (.if_icmp .ne 6, 3) := by decide +kernel
theorem dX4_positionOf_36 : decode cX4_positionOf 36 = .ok (.iload 5, 2) := by decide +kernel
theorem dX4_positionOf_38 : decode cX4_positionOf 38 = .ok (.ireturn, 1) := by decide +kernel
theorem dX4_positionOf_39 : decode cX4_positionOf 39 = .ok (.iinc 4 1, 3) := by decide +kernel
theorem dX4_positionOf_42 : decode cX4_positionOf 42 = .ok (.iinc 5 1, 3) := by decide +kernel
theorem dX4_positionOf_45 : decode cX4_positionOf 45 = .ok (.goto (-39), 3) := by decide +kernel
theorem dX4_positionOf_48 : decode cX4_positionOf 48 = .ok (.iconst (-1), 1) := by decide +kernel
theorem dX4_positionOf_49 : decode cX4_positionOf 49 = .ok (.ireturn, 1) := by decide +kernel
theorem dX4_unlikeWords_0 : decode cX4_unlikeWords 0 = .ok (.aload_n 0, 1) := by decide +kernel
theorem dX4_unlikeWords_1 : decode cX4_unlikeWords 1 = .ok (.iload_n 1, 1) := by decide +kernel
theorem dX4_unlikeWords_2 : decode cX4_unlikeWords 2 = .ok (.iload_n 1, 1) := by decide +kernel
theorem dX4_unlikeWords_3 : decode cX4_unlikeWords 3 = .ok (.invokevirtual 81, 3) := by decide +kernel
theorem dX4_unlikeWords_6 : decode cX4_unlikeWords 6 = .ok (.ireturn, 1) := by decide +kernel
theorem dX4_wordsInBoth_0 : decode cX4_wordsInBoth 0 = .ok (.iconst 0, 1) := by decide +kernel
theorem dX4_wordsInBoth_1 : decode cX4_wordsInBoth 1 = .ok (.istore_n 3, 1) := by decide +kernel
theorem dX4_wordsInBoth_2 : decode cX4_wordsInBoth 2 = .ok (.iconst 0, 1) := by decide +kernel
theorem dX4_wordsInBoth_3 : decode cX4_wordsInBoth 3 = .ok (.istore 4, 2) := by decide +kernel
theorem dX4_wordsInBoth_5 : decode cX4_wordsInBoth 5 = .ok (.iload 4, 2) := by decide +kernel
theorem dX4_wordsInBoth_7 : decode cX4_wordsInBoth 7 = .ok (.aload_n 0, 1) := by decide +kernel
theorem dX4_wordsInBoth_8 : decode cX4_wordsInBoth 8 = .ok (.getfield 51, 3) := by decide +kernel
theorem dX4_wordsInBoth_11 : decode cX4_wordsInBoth 11 = .ok (.getfield 65, 3) := by decide +kernel
theorem dX4_wordsInBoth_14 : decode cX4_wordsInBoth 14 = .ok (.if_icmp .ge 36, 3) := by decide +kernel
theorem dX4_wordsInBoth_17 : decode cX4_wordsInBoth 17 = .ok (.aload_n 0, 1) := by decide +kernel
theorem dX4_wordsInBoth_18 : decode cX4_wordsInBoth 18 = .ok (.getfield 36, 3) := by decide +kernel
theorem dX4_wordsInBoth_21 : decode cX4_wordsInBoth 21 = .ok (.iload 4, 2) := by decide +kernel
theorem dX4_wordsInBoth_23 : decode cX4_wordsInBoth 23 = .ok (.aaload, 1) := by decide +kernel
theorem dX4_wordsInBoth_24 : decode cX4_wordsInBoth 24 = .ok (.iload_n 1, 1) := by decide +kernel
theorem dX4_wordsInBoth_25 : decode cX4_wordsInBoth 25 = .ok (.iaload, 1) := by decide +kernel
theorem dX4_wordsInBoth_26 : decode cX4_wordsInBoth 26 = .ok (.ifCond .le 18, 3) := by decide +kernel
theorem dX4_wordsInBoth_29 : decode cX4_wordsInBoth 29 = .ok (.aload_n 0, 1) := by decide +kernel
theorem dX4_wordsInBoth_30 : decode cX4_wordsInBoth 30 = .ok (.getfield 36, 3) := by decide +kernel
theorem dX4_wordsInBoth_33 : decode cX4_wordsInBoth 33 = .ok (.iload 4, 2) := by decide +kernel
theorem dX4_wordsInBoth_35 : decode cX4_wordsInBoth 35 = .ok (.aaload, 1) := by decide +kernel
theorem dX4_wordsInBoth_36 : decode cX4_wordsInBoth 36 = .ok (.iload_n 2, 1) := by decide +kernel
theorem dX4_wordsInBoth_37 : decode cX4_wordsInBoth 37 = .ok (.iaload, 1) := by decide +kernel
theorem dX4_wordsInBoth_38 : decode cX4_wordsInBoth 38 = .ok (.ifCond .le 6, 3) := by decide +kernel
theorem dX4_wordsInBoth_41 : decode cX4_wordsInBoth 41 = .ok (.iinc 3 1, 3) := by decide +kernel
theorem dX4_wordsInBoth_44 : decode cX4_wordsInBoth 44 = .ok (.iinc 4 1, 3) := by decide +kernel
theorem dX4_wordsInBoth_47 : decode cX4_wordsInBoth 47 = .ok (.goto (-42), 3) := by decide +kernel
theorem dX4_wordsInBoth_50 : decode cX4_wordsInBoth 50 = .ok (.iload_n 3, 1) := by decide +kernel
theorem dX4_wordsInBoth_51 : decode cX4_wordsInBoth 51 = .ok (.ireturn, 1) := by decide +kernel
theorem dX4_mostOften_0 : decode cX4_mostOften 0 = .ok (.iconst 0, 1) := by decide +kernel
theorem dX4_mostOften_1 : decode cX4_mostOften 1 = .ok (.istore_n 2, 1) := by decide +kernel
theorem dX4_mostOften_2 : decode cX4_mostOften 2 = .ok (.iconst 1, 1) := by decide +kernel
