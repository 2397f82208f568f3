theorem dX11_why_11 : decode cX11_why 11 = .ok (.ifCond .ne 7, 3) := by decide +kernel
theorem dX11_why_14 : decode cX11_why 14 = .ok (.iconst 1, 1) := by decide +kernel
theorem dX11_why_15 : decode cX11_why 15 = .ok (.goto 4, 3) := by decide +kernel
theorem dX11_why_18 : decode cX11_why 18 = .ok (.iconst 0, 1) := by decide +kernel
theorem dX11_why_19 : decode cX11_why 19 = .ok (.iconst 1, 1) := by decide +kernel
theorem dX11_why_20 : decode cX11_why 20 = .ok (.iconst 0, 1) := by decide +kernel
theorem dX11_why_21 : decode cX11_why 21 = .ok (.invokevirtual 179, 3) := by decide +kernel
theorem dX11_why_24 : decode cX11_why 24 = .ok (.ifCond .eq 5, 3) := by decide +kernel
theorem dX11_why_27 : decode cX11_why 27 = .ok (.iconst 0, 1) := by decide +kernel
theorem dX11_why_28 : decode cX11_why 28 = .ok (.ireturn, 1) := by decide +kernel
theorem dX11_why_29 : decode cX11_why 29 = .ok (.aload_n 0, 1) := by decide +kernel
theorem dX11_why_30 : decode cX11_why 30 = .ok (.iload_n 1, 1) := by decide +kernel
theorem dX11_why_31 : decode cX11_why 31 = .ok (.invokevirtual 302, 3) := by decide +kernel
theorem dX11_why_34 : decode cX11_why 34 = .ok (.ireturn, 1) := by decide +kernel
theorem dX11_score_0 : decode cX11_score 0 = .ok (.aload_n 0, 1) := by decide +kernel
theorem dX11_score_1 : decode cX11_score 1 = .ok (.iconst 0, 1) := by decide +kernel
theorem dX11_score_2 : decode cX11_score 2 = .ok (.putfield 117, 3) := by decide +kernel
theorem dX11_score_5 : decode cX11_score 5 = .ok (.aload_n 0, 1) := by decide +kernel
theorem dX11_score_6 : decode cX11_score 6 = .ok (.aload_n 0, 1) := by decide +kernel
theorem dX11_score_7 : decode cX11_score 7 = .ok (.iload_n 1, 1) := by decide +kernel
theorem dX11_score_8 : decode cX11_score 8 = .ok (.invokevirtual 402, 3) := by decide +kernel
theorem dX11_score_11 : decode cX11_score 11 = .ok (.ifCond .ne 7, 3) := by decide +kernel
theorem dX11_score_14 : decode cX11_score 14 = .ok (.iconst 1, 1) := by decide +kernel
theorem dX11_score_15 : decode cX11_score 15 = .ok (.goto 4, 3) := by decide +kernel
theorem dX11_score_18 : decode cX11_score 18 = .ok (.iconst 0, 1) := by decide +kernel
theorem dX11_score_19 : decode cX11_score 19 = .ok (.iconst 1, 1) := by decide +kernel
theorem dX11_score_20 : decode cX11_score 20 = .ok (.iconst 0, 1) := by decide +kernel
theorem dX11_score_21 : decode cX11_score 21 = .ok (.invokevirtual 179, 3) := by decide +kernel
theorem dX11_score_24 : decode cX11_score 24 = .ok (.ifCond .eq 5, 3) := by decide +kernel
theorem dX11_score_27 : decode cX11_score 27 = .ok (.iconst 0, 1) := by decide +kernel
theorem dX11_score_28 : decode cX11_score 28 = .ok (.ireturn, 1) := by decide +kernel
theorem dX11_score_29 : decode cX11_score 29 = .ok (.aload_n 0, 1) := by decide +kernel
theorem dX11_score_30 : decode cX11_score 30 = .ok (.iload_n 1, 1) := by decide +kernel
theorem dX11_score_31 : decode cX11_score 31 = .ok (.invokevirtual 305, 3) := by decide +kernel
theorem dX11_score_34 : decode cX11_score 34 = .ok (.ireturn, 1) := by decide +kernel
theorem dX11_near_0 : decode cX11_near 0 = .ok (.aload_n 0, 1) := by decide +kernel
theorem dX11_near_1 : decode cX11_near 1 = .ok (.iconst 0, 1) := by decide +kernel
theorem dX11_near_2 : decode cX11_near 2 = .ok (.putfield 117, 3) := by decide +kernel
theorem dX11_near_5 : decode cX11_near 5 = .ok (.aload_n 0, 1) := by decide +kernel
theorem dX11_near_6 : decode cX11_near 6 = .ok (.aload_n 0, 1) := by decide +kernel
theorem dX11_near_7 : decode cX11_near 7 = .ok (.iload_n 1, 1) := by decide +kernel
theorem dX11_near_8 : decode cX11_near 8 = .ok (.invokevirtual 402, 3) := by decide +kernel
theorem dX11_near_11 : decode cX11_near 11 = .ok (.ifCond .ne 7, 3) := by decide +kernel
theorem dX11_near_14 : decode cX11_near 14 = .ok (.iconst 1, 1) := by decide +kernel
theorem dX11_near_15 : decode cX11_near 15 = .ok (.goto 4, 3) := by decide +kernel
theorem dX11_near_18 : decode cX11_near 18 = .ok (.iconst 0, 1) := by decide +kernel
theorem dX11_near_19 : decode cX11_near 19 = .ok (.iconst 1, 1) := by decide +kernel
theorem dX11_near_20 : decode cX11_near 20 = .ok (.iconst 0, 1) := by decide +kernel
theorem dX11_near_21 : decode cX11_near 21 = .ok (.invokevirtual 179, 3) := by decide +kernel
theorem dX11_near_24 : decode cX11_near 24 = .ok (.ifCond .eq 5, 3) := by decide +kernel
theorem dX11_near_27 : decode cX11_near 27 = .ok (.iconst 0, 1) := by decide +kernel
theorem dX11_near_28 : decode cX11_near 28 = .ok (.ireturn, 1) := by decide +kernel
theorem dX11_near_29 : decode cX11_near 29 = .ok (.aload_n 0, 1) := by decide +kernel
theorem dX11_near_30 : decode cX11_near 30 = .ok (.iload_n 1, 1) := by decide +kernel
theorem dX11_near_31 : decode cX11_near 31 = .ok (.invokevirtual 293, 3) := by decide +kernel
theorem dX11_near_34 : decode cX11_near 34 = .ok (.ireturn, 1) := by decide +kernel
theorem dX11_endOf_0 : decode cX11_endOf 0 = .ok (.iload_n 2, 1) := by decide +kernel
theorem dX11_endOf_1 : decode cX11_endOf 1 = .ok (.istore_n 3, 1) := by decide +kernel
theorem dX11_endOf_2 : decode cX11_endOf 2 = .ok (.iconst 0, 1) := by decide +kernel
theorem dX11_endOf_3 : decode cX11_endOf 3 = .ok (.istore 4, 2) := by decide +kernel
theorem dX11_endOf_5 : decode cX11_endOf 5 = .ok (.iload 4, 2) := by decide +kernel
theorem dX11_endOf_7 : decode cX11_endOf 7 = .ok (.aload_n 0, 1) := by decide +kernel
theorem dX11_endOf_8 : decode cX11_endOf 8 = .ok (.getfield 211, 3) := by decide +kernel
theorem dX11_endOf_11 : decode cX11_endOf 11 = .ok (.if_icmp .ge 90, 3) := by decide +kernel
theorem dX11_endOf_14 : decode cX11_endOf 14 = .ok (.aload_n 0, 1) := by decide +kernel
theorem dX11_endOf_15 : decode cX11_endOf 15 = .ok (.getfield 41, 3) := by decide +kernel
theorem dX11_endOf_18 : decode cX11_endOf 18 = .ok (.aload_n 0, 1) := by decide +kernel
theorem dX11_endOf_19 : decode cX11_endOf 19 = .ok (.getfield 44, 3) := by decide +kernel
theorem dX11_endOf_22 : decode cX11_endOf 22 = .ok (.iload 4, 2) := by decide +kernel
theorem dX11_endOf_24 : decode cX11_endOf 24 = .ok (.iaload, 1) := by decide +kernel
theorem dX11_endOf_25 : decode cX11_endOf 25 = .ok (.aaload, 1) := by decide +kernel
theorem dX11_endOf_26 : decode cX11_endOf 26 = .ok (.iload_n 1, 1) := by decide +kernel
theorem dX11_endOf_27 : decode cX11_endOf 27 = .ok (.iaload, 1) := by decide +kernel
theorem dX11_endOf_28 : decode cX11_endOf 28 = .ok (.ifCond .ne 6, 3) := by decide +kernel
theorem dX11_endOf_31 : decode cX11_endOf 31 = .ok (.goto 64, 3) := by decide +kernel
theorem dX11_endOf_34 : decode cX11_endOf 34 = .ok (.iload_n 2, 1) := by decide +kernel
theorem dX11_endOf_35 : decode cX11_endOf 35 = .ok (.istore 5, 2) := by decide +kernel
theorem dX11_endOf_37 : decode cX11_endOf 37 = .ok (.iload 5, 2) := by decide +kernel
theorem dX11_endOf_39 : decode cX11_endOf 39 = .ok (.aload_n 0, 1) := by decide +kernel
theorem dX11_endOf_40 : decode cX11_endOf 40 = .ok (.getfield 28, 3) := by decide +kernel
theorem dX11_endOf_43 : decode cX11_endOf 43 = .ok (.iload_n 1, 1) := by decide +kernel
theorem dX11_endOf_44 : decode cX11_endOf 44 = .ok (.iaload, 1) := by decide +kernel
theorem dX11_endOf_45 : decode cX11_endOf 45 = .ok (.if_icmp .ge 28, 3) := by decide +kernel
theorem dX11_endOf_48 : decode cX11_endOf 48 = .ok (.aload_n 0, 1) := by decide +kernel
theorem dX11_endOf_49 : decode cX11_endOf 49 = .ok (.getfield 25, 3) := by decide +kernel
theorem dX11_endOf_52 : decode cX11_endOf 52 = .ok (.iload_n 1, 1) := by decide +kernel
theorem dX11_endOf_53 : decode cX11_endOf 53 = .ok (.aaload, 1) := by decide +kernel
theorem dX11_endOf_54 : decode cX11_endOf 54 = .ok (.iload 5, 2) := by decide +kernel
theorem dX11_endOf_56 : decode cX11_endOf 56 = .ok (.iaload, 1) := by decide +kernel
theorem dX11_endOf_57 : decode cX11_endOf 57 = .ok (.aload_n 0, 1) := by decide +kernel
theorem dX11_endOf_58 : decode cX11_endOf 58 = .ok (.getfield 44, 3) := by decide +kernel
theorem dX11_endOf_61 : decode cX11_endOf 61 = .ok (.iload 4, 2) := by decide +kernel
theorem dX11_endOf_63 : decode cX11_endOf 63 = .ok (.iaload, 1) := by decide +kernel
theorem dX11_endOf_64 : decode cX11_endOf 64 = .ok (.if_icmp .eq 9, 3) := by decide +kernel
theorem dX11_endOf_67 : decode cX11_endOf 67 = .ok (.iinc 5 1, 3) := by decide +kernel
theorem dX11_endOf_70 : decode cX11_endOf 70 = .ok (.goto (-33), 3) := by decide +kernel
theorem dX11_endOf_73 : decode cX11_endOf 73 = .ok (.iload 5, 2) := by decide +kernel
theorem dX11_endOf_75 : decode cX11_endOf 75 = .ok (.aload_n 0, 1) := by decide +kernel
theorem dX11_endOf_76 : decode cX11_endOf 76 = .ok (.getfield 28, 3) := by decide +kernel
theorem dX11_endOf_79 : decode cX11_endOf 79 = .ok (.iload_n 1, 1) := by decide +kernel
theorem dX11_endOf_80 : decode cX11_endOf 80 = .ok (.iaload, 1) := by decide +kernel
theorem dX11_endOf_81 : decode cX11_endOf 81 = .ok (.if_icmp .ne 7, 3) := by decide +kernel
theorem dX11_endOf_84 : decode cX11_endOf 84 = .ok (.sipush 300, 3) := by decide +kernel
theorem dX11_endOf_87 : decode cX11_endOf 87 = .ok (.ireturn, 1) := by decide +kernel
theorem dX11_endOf_88 : decode cX11_endOf 88 = .ok (.iload_n 3, 1) := by decide +kernel
theorem dX11_endOf_89 : decode cX11_endOf 89 = .ok (.iload 5, 2) := by decide +kernel
theorem dX11_endOf_91 : decode cX11_endOf 91 = .ok (.invokestatic 261, 3) := by decide +kernel
theorem dX11_endOf_94 : decode cX11_endOf 94 = .ok (.istore_n 3, 1) := by decide +kernel
theorem dX11_endOf_95 : decode cX11_endOf 95 = .ok (.iinc 4 1, 3) := by decide +kernel
theorem dX11_endOf_98 : decode cX11_endOf 98 = .ok (.goto (-93), 3) := by decide +kernel
theorem dX11_endOf_101 : decode cX11_endOf 101 = .ok (.iload_n 3, 1) := by decide +kernel
theorem dX11_endOf_102 : decode cX11_endOf 102 = .ok (.ireturn, 1) := by decide +kernel
theorem dX11_window_0 : decode cX11_window 0 = .ok (.aload_n 0, 1) := by decide +kernel
theorem dX11_window_1 : decode cX11_window 1 = .ok (.iconst 0, 1) := by decide +kernel
theorem dX11_window_2 : decode cX11_window 2 = .ok (.putfield 117, 3) := by decide +kernel
theorem dX11_window_5 : decode cX11_window 5 = .ok (.aload_n 0, 1) := by decide +kernel
theorem dX11_window_6 : decode cX11_window 6 = .ok (.aload_n 0, 1) := by decide +kernel
theorem dX11_window_7 : decode cX11_window 7 = .ok (.iload_n 1, 1) := by decide +kernel
theorem dX11_window_8 : decode cX11_window 8 = .ok (.invokevirtual 402, 3) := by decide +kernel
theorem dX11_window_11 : decode cX11_window 11 = .ok (.ifCond .ne 7, 3) := by decide +kernel
theorem dX11_window_14 : decode cX11_window 14 = .ok (.iconst 1, 1) := by decide +kernel
theorem dX11_window_15 : decode cX11_window 15 = .ok (.goto 4, 3) := by decide +kernel
theorem dX11_window_18 : decode cX11_window 18 = .ok (.iconst 0, 1) := by decide +kernel
theorem dX11_window_19 : decode cX11_window 19 = .ok (.iconst 1, 1) := by decide +kernel
theorem dX11_window_20 : decode cX11_window 20 = .ok (.iconst 0, 1) := by decide +kernel
theorem dX11_window_21 : decode cX11_window 21 = .ok (.invokevirtual 179, 3) := by decide +kernel
theorem dX11_window_24 : decode cX11_window 24 = .ok (.ifCond .ne 26, 3) := by decide +kernel
theorem dX11_window_27 : decode cX11_window 27 = .ok (.aload_n 0, 1) := by decide +kernel
theorem dX11_window_28 : decode cX11_window 28 = .ok (.iload_n 2, 1) := by decide +kernel
theorem dX11_window_29 : decode cX11_window 29 = .ok (.iconst 0, 1) := by decide +kernel
theorem dX11_window_30 : decode cX11_window 30 = .ok (.iconst 1, 1) := by decide +kernel
theorem dX11_window_31 : decode cX11_window 31 = .ok (.invokestatic 172, 3) := by decide +kernel
theorem dX11_window_34 : decode cX11_window 34 = .ok (.ifCond .ne 7, 3) := by decide +kernel
theorem dX11_window_37 : decode cX11_window 37 = .ok (.iconst 1, 1) := by decide +kernel
theorem dX11_window_38 : decode cX11_window 38 = .ok (.goto 4, 3) := by decide +kernel
theorem dX11_window_41 : decode cX11_window 41 = .ok (.iconst 0, 1) := by decide +kernel
theorem dX11_window_42 : decode cX11_window 42 = .ok (.iconst 2, 1) := by decide +kernel
theorem dX11_window_43 : decode cX11_window 43 = .ok (.iconst 1, 1) := by decide +kernel
theorem dX11_window_44 : decode cX11_window 44 = .ok (.invokevirtual 179, 3) := by decide +kernel
theorem dX11_window_47 : decode cX11_window 47 = .ok (.ifCond .eq 5, 3) := by decide +kernel
theorem dX11_window_50 : decode cX11_window 50 = .ok (.iconst 0, 1) := by decide +kernel
theorem dX11_window_51 : decode cX11_window 51 = .ok (.ireturn, 1) := by decide +kernel
theorem dX11_window_52 : decode cX11_window 52 = .ok (.iconst 0, 1) := by decide +kernel
theorem dX11_window_53 : decode cX11_window 53 = .ok (.istore_n 3, 1) := by decide +kernel
theorem dX11_window_54 : decode cX11_window 54 = .ok (.iconst (-1), 1) := by decide +kernel
theorem dX11_window_55 : decode cX11_window 55 = .ok (.istore 4, 2) := by decide +kernel
theorem dX11_window_57 : decode cX11_window 57 = .ok (.sipush 151, 3) := by decide +kernel
theorem dX11_window_60 : decode cX11_window 60 = .ok (.istore 5, 2) := by decide +kernel
theorem dX11_window_62 : decode cX11_window 62 = .ok (.iconst 0, 1) := by decide +kernel
theorem dX11_window_63 : decode cX11_window 63 = .ok (.istore 6, 2) := by decide +kernel
theorem dX11_window_65 : decode cX11_window 65 = .ok (.iload 6, 2) := by decide +kernel
theorem dX11_window_67 : decode cX11_window 67 = .ok (.aload_n 0, 1) := by decide +kernel
theorem dX11_window_68 : decode cX11_window 68 = .ok (.getfield 211, 3) := by decide +kernel
theorem dX11_window_71 : decode cX11_window 71 = .ok (.if_icmp .ge 34, 3) := by decide +kernel
theorem dX11_window_74 : decode cX11_window 74 = .ok (.iload_n 3, 1) := by decide +kernel
theorem dX11_window_75 : decode cX11_window 75 = .ok (.aload_n 0, 1) := by decide +kernel
theorem dX11_window_76 : decode cX11_window 76 = .ok (.getfield 41, 3) := by decide +kernel
theorem dX11_window_79 : decode cX11_window 79 = .ok (.aload_n 0, 1) := by decide +kernel
theorem dX11_window_80 : decode cX11_window 80 = .ok (.getfield 44, 3) := by decide +kernel
theorem dX11_window_83 : decode cX11_window 83 = .ok (.iload 6, 2) := by decide +kernel
theorem dX11_window_85 : decode cX11_window 85 = .ok (.iaload, 1) := by decide +kernel
theorem dX11_window_86 : decode cX11_window 86 = .ok (.aaload, 1) := by decide +kernel
theorem dX11_window_87 : decode cX11_window 87 = .ok (.iload_n 1, 1) := by decide +kernel
theorem dX11_window_88 : decode cX11_window 88 = .ok (.iaload, 1) := by decide +kernel
theorem dX11_window_89 : decode cX11_window 89 = .ok (.ifCond .le 7, 3) := by decide +kernel
theorem dX11_window_92 : decode cX11_window 92 = .ok (.iconst 1, 1) := by decide +kernel
theorem dX11_window_93 : decode cX11_window 93 = .ok (.goto 4, 3) := by decide +kernel
theorem dX11_window_96 : decode cX11_window 96 = .ok (.iconst 0, 1) := by decide +kernel
theorem dX11_window_97 : decode cX11_window 97 = .ok (.iadd, 1) := by decide +kernel
theorem dX11_window_98 : decode cX11_window 98 = .ok (.istore_n 3, 1) := by decide +kernel
theorem dX11_window_99 : decode cX11_window 99 = .ok (.iinc 6 1, 3) := by decide +kernel
theorem dX11_window_102 : decode cX11_window 102 = .ok (.goto (-37), 3) := by decide +kernel
theorem dX11_window_105 : decode cX11_window 105 = .ok (.iload_n 3, 1) := by decide +kernel
theorem dX11_window_106 : decode cX11_window 106 = .ok (.ifCond .ne 13, 3) := by decide +kernel
theorem dX11_window_109 : decode cX11_window 109 = .ok (.iload_n 2, 1) := by decide +kernel
theorem dX11_window_110 : decode cX11_window 110 = .ok (.ifCond .ne 7, 3) := by decide +kernel
theorem dX11_window_113 : decode cX11_window 113 = .ok (.iconst (-1), 1) := by decide +kernel
theorem dX11_window_114 : decode cX11_window 114 = .ok (.goto 4, 3) := by decide +kernel
theorem dX11_window_117 : decode cX11_window 117 = .ok (.iconst 0, 1) := by decide +kernel
theorem dX11_window_118 : decode cX11_window 118 = .ok (.ireturn, 1) := by decide +kernel
theorem dX11_window_119 : decode cX11_window 119 = .ok (.iconst 0, 1) := by decide +kernel
theorem dX11_window_120 : decode cX11_window 120 = .ok (.istore 6, 2) := by decide +kernel
theorem dX11_window_122 : decode cX11_window 122 = .ok (.iload 6, 2) := by decide +kernel
theorem dX11_window_124 : decode cX11_window 124 = .ok (.aload_n 0, 1) := by decide +kernel
theorem dX11_window_125 : decode cX11_window 125 = .ok (.getfield 28, 3) := by decide +kernel
theorem dX11_window_128 : decode cX11_window 128 = .ok (.iload_n 1, 1) := by decide +kernel
theorem dX11_window_129 : decode cX11_window 129 = .ok (.iaload, 1) := by decide +kernel
theorem dX11_window_130 : decode cX11_window 130 = .ok (.if_icmp .ge 41, 3) := by decide +kernel
theorem dX11_window_133 : decode cX11_window 133 = .ok (.aload_n 0, 1) := by decide +kernel
theorem dX11_window_134 : decode cX11_window 134 = .ok (.iload_n 1, 1) := by decide +kernel
theorem dX11_window_135 : decode cX11_window 135 = .ok (.iload 6, 2) := by decide +kernel
theorem dX11_window_137 : decode cX11_window 137 = .ok (.invokevirtual 439, 3) := by decide +kernel
theorem dX11_window_140 : decode cX11_window 140 = .ok (.iconst 1, 1) := by decide +kernel
theorem dX11_window_141 : decode cX11_window 141 = .ok (.iadd, 1) := by decide +kernel
theorem dX11_window_142 : decode cX11_window 142 = .ok (.iload 6, 2) := by decide +kernel
theorem dX11_window_144 : decode cX11_window 144 = .ok (.isub, 1) := by decide +kernel
theorem dX11_window_145 : decode cX11_window 145 = .ok (.istore 7, 2) := by decide +kernel
theorem dX11_window_147 : decode cX11_window 147 = .ok (.iload 7, 2) := by decide +kernel
theorem dX11_window_149 : decode cX11_window 149 = .ok (.iload 5, 2) := by decide +kernel
theorem dX11_window_151 : decode cX11_window 151 = .ok (.if_icmp .lt 6, 3) := by decide +kernel
theorem dX11_window_154 : decode cX11_window 154 = .ok (.goto 11, 3) := by decide +kernel
theorem dX11_window_157 : decode cX11_window 157 = .ok (.iload 7, 2) := by decide +kernel
theorem dX11_window_159 : decode cX11_window 159 = .ok (.istore 5, 2) := by decide +kernel
theorem dX11_window_161 : decode cX11_window 161 = .ok (.iload 6, 2) := by decide +kernel
theorem dX11_window_163 : decode cX11_window 163 = .ok (.istore 4, 2) := by decide +kernel
theorem dX11_window_165 : decode cX11_window 165 = .ok (.iinc 6 1, 3) := by decide +kernel
theorem dX11_window_168 : decode cX11_window 168 = .ok (.goto (-46), 3) := by decide +kernel
theorem dX11_window_171 : decode cX11_window 171 = .ok (.iload_n 2, 1) := by decide +kernel
theorem dX11_window_172 : decode cX11_window 172 = .ok (.ifCond .ne 8, 3) := by decide +kernel
theorem dX11_window_175 : decode cX11_window 175 = .ok (.iload 4, 2) := by decide +kernel
theorem dX11_window_177 : decode cX11_window 177 = .ok (.goto 5, 3) := by decide +kernel
theorem dX11_window_180 : decode cX11_window 180 = .ok (.iload 5, 2) := by decide +kernel
theorem dX11_window_182 : decode cX11_window 182 = .ok (.ireturn, 1) := by decide +kernel
theorem dX11_answers_0 : decode cX11_answers 0 = .ok (.aload_n 0, 1) := by decide +kernel
theorem dX11_answers_1 : decode cX11_answers 1 = .ok (.iconst 0, 1) := by decide +kernel
theorem dX11_answers_2 : decode cX11_answers 2 = .ok (.putfield 117, 3) := by decide +kernel
theorem dX11_answers_5 : decode cX11_answers 5 = .ok (.aload_n 0, 1) := by decide +kernel
theorem dX11_answers_6 : decode cX11_answers 6 = .ok (.invokevirtual 442, 3) := by decide +kernel
theorem dX11_answers_9 : decode cX11_answers 9 = .ok (.aload_n 0, 1) := by decide +kernel
theorem dX11_answers_10 : decode cX11_answers 10 = .ok (.getfield 299, 3) := by decide +kernel
theorem dX11_answers_13 : decode cX11_answers 13 = .ok (.ireturn, 1) := by decide +kernel
theorem dX11_answer_0 : decode cX11_answer 0 = .ok (.aload_n 0, 1) := by decide +kernel
theorem dX11_answer_1 : decode cX11_answer 1 = .ok (.iconst 0, 1) := by decide +kernel
theorem dX11_answer_2 : decode cX11_answer 2 = .ok (.putfield 117, 3) := by decide +kernel
theorem dX11_answer_5 : decode cX11_answer 5 = .ok (.aload_n 0, 1) := by decide +kernel
theorem dX11_answer_6 : decode cX11_answer 6 = .ok (.invokevirtual 442, 3) := by decide +kernel
theorem dX11_answer_9 : decode cX11_answer 9 = .ok (.aload_n 0, 1) := by decide +kernel
theorem dX11_answer_10 : decode cX11_answer 10 = .ok (.iload_n 1, 1) := by decide +kernel
theorem dX11_answer_11 : decode cX11_answer 11 = .ok (.iconst 0, 1) := by decide +kernel
theorem dX11_answer_12 : decode cX11_answer 12 = .ok (.aload_n 0, 1) := by decide +kernel
theorem dX11_answer_13 : decode cX11_answer 13 = .ok (.getfield 299, 3) := by decide +kernel
theorem dX11_answer_16 : decode cX11_answer 16 = .ok (.iconst 1, 1) := by decide +kernel
theorem dX11_answer_17 : decode cX11_answer 17 = .ok (.isub, 1) := by decide +kernel
theorem dX11_answer_18 : decode cX11_answer 18 = .ok (.invokestatic 172, 3) := by decide +kernel
theorem dX11_answer_21 : decode cX11_answer 21 = .ok (.ifCond .ne 7, 3) := by decide +kernel
theorem dX11_answer_24 : decode cX11_answer 24 = .ok (.iconst 1, 1) := by decide +kernel
theorem dX11_answer_25 : decode cX11_answer 25 = .ok (.goto 4, 3) := by decide +kernel
theorem dX11_answer_28 : decode cX11_answer 28 = .ok (.iconst 0, 1) := by decide +kernel
theorem dX11_answer_29 : decode cX11_answer 29 = .ok (.iconst 1, 1) := by decide +kernel
theorem dX11_answer_30 : decode cX11_answer 30 = .ok (.iconst 0, 1) := by decide +kernel
theorem dX11_answer_31 : decode cX11_answer 31 = .ok (.invokevirtual 179, 3) := by decide +kernel
theorem dX11_answer_34 : decode cX11_answer 34 = .ok (.ifCond .ne 26, 3) := by decide +kernel
theorem dX11_answer_37 : decode cX11_answer 37 = .ok (.aload_n 0, 1) := by decide +kernel
theorem dX11_answer_38 : decode cX11_answer 38 = .ok (.iload_n 2, 1) := by decide +kernel
theorem dX11_answer_39 : decode cX11_answer 39 = .ok (.iconst 0, 1) := by decide +kernel
theorem dX11_answer_40 : decode cX11_answer 40 = .ok (.iconst 1, 1) := by decide +kernel
theorem dX11_answer_41 : decode cX11_answer 41 = .ok (.invokestatic 172, 3) := by decide +kernel
theorem dX11_answer_44 : decode cX11_answer 44 = .ok (.ifCond .ne 7, 3) := by decide +kernel
theorem dX11_answer_47 : decode cX11_answer 47 = .ok (.iconst 1, 1) := by decide +kernel
theorem dX11_answer_48 : decode cX11_answer 48 = .ok (.goto 4, 3) := by decide +kernel
theorem dX11_answer_51 : decode cX11_answer 51 = .ok (.iconst 0, 1) := by decide +kernel
theorem dX11_answer_52 : decode cX11_answer 52 = .ok (.iconst 2, 1) := by decide +kernel
theorem dX11_answer_53 : decode cX11_answer 53 = .ok (.iconst 1, 1) := by decide +kernel
theorem dX11_answer_54 : decode cX11_answer 54 = .ok (.invokevirtual 179, 3) := by decide +kernel
theorem dX11_answer_57 : decode cX11_answer 57 = .ok (.ifCond .eq 5, 3) := by decide +kernel
theorem dX11_answer_60 : decode cX11_answer 60 = .ok (.iconst 0, 1) := by decide +kernel
theorem dX11_answer_61 : decode cX11_answer 61 = .ok (.ireturn, 1) := by decide +kernel
theorem dX11_answer_62 : decode cX11_answer 62 = .ok (.iload_n 2, 1) := by decide +kernel
theorem dX11_answer_63 : decode cX11_answer 63 = .ok (.ifCond .ne 12, 3) := by decide +kernel
theorem dX11_answer_66 : decode cX11_answer 66 = .ok (.aload_n 0, 1) := by decide +kernel
theorem dX11_answer_67 : decode cX11_answer 67 = .ok (.getfield 71, 3) := by decide +kernel
theorem dX11_answer_70 : decode cX11_answer 70 = .ok (.iload_n 1, 1) := by decide +kernel
theorem dX11_answer_71 : decode cX11_answer 71 = .ok (.iaload, 1) := by decide +kernel
theorem dX11_answer_72 : decode cX11_answer 72 = .ok (.goto 9, 3) := by decide +kernel
theorem dX11_answer_75 : decode cX11_answer 75 = .ok (.aload_n 0, 1) := by decide +kernel
theorem dX11_answer_76 : decode cX11_answer 76 = .ok (.getfield 74, 3) := by decide +kernel
theorem dX11_answer_79 : decode cX11_answer 79 = .ok (.iload_n 1, 1) := by decide +kernel
theorem dX11_answer_80 : decode cX11_answer 80 = .ok (.iaload, 1) := by decide +kernel
theorem dX11_answer_81 : decode cX11_answer 81 = .ok (.ireturn, 1) := by decide +kernel
theorem dX11_place_0 : decode cX11_place 0 = .ok (.aload_n 0, 1) := by decide +kernel
theorem dX11_place_1 : decode cX11_place 1 = .ok (.iconst 0, 1) := by decide +kernel
theorem dX11_place_2 : decode cX11_place 2 = .ok (.putfield 117, 3) := by decide +kernel
theorem dX11_place_5 : decode cX11_place 5 = .ok (.aload_n 0, 1) := by decide +kernel
theorem dX11_place_6 : decode cX11_place 6 = .ok (.aload_n 0, 1) := by decide +kernel
theorem dX11_place_7 : decode cX11_place 7 = .ok (.iload_n 1, 1) := by decide +kernel
theorem dX11_place_8 : decode cX11_place 8 = .ok (.invokevirtual 402, 3) := by decide +kernel
theorem dX11_place_11 : decode cX11_place 11 = .ok (.ifCond .ne 7, 3) := by decide +kernel
theorem dX11_place_14 : decode cX11_place 14 = .ok (.iconst 1, 1) := by decide +kernel
theorem dX11_place_15 : decode cX11_place 15 = .ok (.goto 4, 3) := by decide +kernel
theorem dX11_place_18 : decode cX11_place 18 = .ok (.iconst 0, 1) := by decide +kernel
theorem dX11_place_19 : decode cX11_place 19 = .ok (.iconst 1, 1) := by decide +kernel
theorem dX11_place_20 : decode cX11_place 20 = .ok (.iconst 0, 1) := by decide +kernel
theorem dX11_place_21 : decode cX11_place 21 = .ok (.invokevirtual 179, 3) := by decide +kernel
theorem dX11_place_24 : decode cX11_place 24 = .ok (.ifCond .eq 5, 3) := by decide +kernel
theorem dX11_place_27 : decode cX11_place 27 = .ok (.iconst 0, 1) := by decide +kernel
theorem dX11_place_28 : decode cX11_place 28 = .ok (.ireturn, 1) := by decide +kernel
theorem dX11_place_29 : decode cX11_place 29 = .ok (.aload_n 0, 1) := by decide +kernel
theorem dX11_place_30 : decode cX11_place 30 = .ok (.invokevirtual 442, 3) := by decide +kernel
theorem dX11_place_33 : decode cX11_place 33 = .ok (.iconst 0, 1) := by decide +kernel
theorem dX11_place_34 : decode cX11_place 34 = .ok (.istore_n 2, 1) := by decide +kernel
theorem dX11_place_35 : decode cX11_place 35 = .ok (.iload_n 2, 1) := by decide +kernel
theorem dX11_place_36 : decode cX11_place 36 = .ok (.aload_n 0, 1) := by decide +kernel
theorem dX11_place_37 : decode cX11_place 37 = .ok (.getfield 299, 3) := by decide +kernel
theorem dX11_place_40 : decode cX11_place 40 = .ok (.if_icmp .ge 21, 3) := by decide +kernel
theorem dX11_place_43 : decode cX11_place 43 = .ok (.aload_n 0, 1) := by decide +kernel
theorem dX11_place_44 : decode cX11_place 44 = .ok (.getfield 71, 3) := by decide +kernel
theorem dX11_place_47 : decode cX11_place 47 = .ok (.iload_n 2, 1) := by decide +kernel
theorem dX11_place_48 : decode cX11_place 48 = .ok (.iaload, 1) := by decide +kernel
theorem dX11_place_49 : decode cX11_place 49 = .ok (.iload_n 1, 1) := by decide +kernel
theorem dX11_place_50 : decode cX11_place 50 = .ok (.if_icmp .ne 5, 3) := by decide +kernel
theorem dX11_place_53 : decode cX11_place 53 = .ok (.iload_n 2, 1) := by decide +kernel
theorem dX11_place_54 : decode cX11_place 54 = .ok (.ireturn, 1) := by decide +kernel
theorem dX11_place_55 : decode cX11_place 55 = .ok (.iinc 2 1, 3) := by decide +kernel
theorem dX11_place_58 : decode cX11_place 58 = .ok (.goto (-23), 3) := by decide +kernel
theorem dX11_place_61 : decode cX11_place 61 = .ok (.iconst (-1), 1) := by decide +kernel
theorem dX11_place_62 : decode cX11_place 62 = .ok (.ireturn, 1) := by decide +kernel
theorem dX11_early_0 : decode cX11_early 0 = .ok (.aload_n 0, 1) := by decide +kernel
theorem dX11_early_1 : decode cX11_early 1 = .ok (.iconst 0, 1) := by decide +kernel
theorem dX11_early_2 : decode cX11_early 2 = .ok (.putfield 117, 3) := by decide +kernel
theorem dX11_early_5 : decode cX11_early 5 = .ok (.aload_n 0, 1) := by decide +kernel
theorem dX11_early_6 : decode cX11_early 6 = .ok (.iload_n 1, 1) := by decide +kernel
theorem dX11_early_7 : decode cX11_early 7 = .ok (.iconst 1, 1) := by decide +kernel
theorem dX11_early_8 : decode cX11_early 8 = .ok (.bipush 10, 2) := by decide +kernel
theorem dX11_early_10 : decode cX11_early 10 = .ok (.invokestatic 172, 3) := by decide +kernel
theorem dX11_early_13 : decode cX11_early 13 = .ok (.ifCond .eq 13, 3) := by decide +kernel
theorem dX11_early_16 : decode cX11_early 16 = .ok (.iload_n 2, 1) := by decide +kernel
theorem dX11_early_17 : decode cX11_early 17 = .ok (.iconst 0, 1) := by decide +kernel
theorem dX11_early_18 : decode cX11_early 18 = .ok (.bipush 8, 2) := by decide +kernel
theorem dX11_early_20 : decode cX11_early 20 = .ok (.invokestatic 172, 3) := by decide +kernel
theorem dX11_early_23 : decode cX11_early 23 = .ok (.ifCond .ne 7, 3) := by decide +kernel
theorem dX11_early_26 : decode cX11_early 26 = .ok (.iconst 1, 1) := by decide +kernel
theorem dX11_early_27 : decode cX11_early 27 = .ok (.goto 4, 3) := by decide +kernel
theorem dX11_early_30 : decode cX11_early 30 = .ok (.iconst 0, 1) := by decide +kernel
theorem dX11_early_31 : decode cX11_early 31 = .ok (.iconst 1, 1) := by decide +kernel
theorem dX11_early_32 : decode cX11_early 32 = .ok (.iconst 1, 1) := by decide +kernel
theorem dX11_early_33 : decode cX11_early 33 = .ok (.invokevirtual 179, 3) := by decide +kernel
theorem dX11_early_36 : decode cX11_early 36 = .ok (.ifCond .eq 5, 3) := by decide +kernel
theorem dX11_early_39 : decode cX11_early 39 = .ok (.iconst 0, 1) := by decide +kernel
theorem dX11_early_40 : decode cX11_early 40 = .ok (.ireturn, 1) := by decide +kernel
theorem dX11_early_41 : decode cX11_early 41 = .ok (.aload_n 0, 1) := by decide +kernel
theorem dX11_early_42 : decode cX11_early 42 = .ok (.iload_n 1, 1) := by decide +kernel
theorem dX11_early_43 : decode cX11_early 43 = .ok (.aload_n 0, 1) := by decide +kernel
theorem dX11_early_44 : decode cX11_early 44 = .ok (.getfield 20, 3) := by decide +kernel
theorem dX11_early_47 : decode cX11_early 47 = .ok (.invokevirtual 445, 3) := by decide +kernel
theorem dX11_early_50 : decode cX11_early 50 = .ok (.iload_n 2, 1) := by decide +kernel
theorem dX11_early_51 : decode cX11_early 51 = .ok (.tableswitch 86 0 7 #[45, 50, 56, 61, 66, 71, 76, 81], 45) := by decide +kernel
theorem dX11_early_96 : decode cX11_early 96 = .ok (.aload_n 0, 1) := by decide +kernel
theorem dX11_early_97 : decode cX11_early 97 = .ok (.getfield 341, 3) := by decide +kernel
theorem dX11_early_100 : decode cX11_early 100 = .ok (.ireturn, 1) := by decide +kernel
theorem dX11_early_101 : decode cX11_early 101 = .ok (.aload_n 0, 1) := by decide +kernel
theorem dX11_early_102 : decode cX11_early 102 = .ok (.iload_n 1, 1) := by decide +kernel
theorem dX11_early_103 : decode cX11_early 103 = .ok (.invokevirtual 353, 3) := by decide +kernel
theorem dX11_early_106 : decode cX11_early 106 = .ok (.ireturn, 1) := by decide +kernel
theorem dX11_early_107 : decode cX11_early 107 = .ok (.aload_n 0, 1) := by decide +kernel
theorem dX11_early_108 : decode cX11_early 108 = .ok (.getfield 365, 3) := by decide +kernel
theorem dX11_early_111 : decode cX11_early 111 = .ok (.ireturn, 1) := by decide +kernel
theorem dX11_early_112 : decode cX11_early 112 = .ok (.aload_n 0, 1) := by decide +kernel
theorem dX11_early_113 : decode cX11_early 113 = .ok (.getfield 332, 3) := by decide +kernel
theorem dX11_early_116 : decode cX11_early 116 = .ok (.ireturn, 1) := by decide +kernel
theorem dX11_early_117 : decode cX11_early 117 = .ok (.aload_n 0, 1) := by decide +kernel
theorem dX11_early_118 : decode cX11_early 118 = .ok (.getfield 335, 3) := by decide +kernel
theorem dX11_early_121 : decode cX11_early 121 = .ok (.ireturn, 1) := by decide +kernel
theorem dX11_early_122 : decode cX11_early 122 = .ok (.aload_n 0, 1) := by decide +kernel
theorem dX11_early_123 : decode cX11_early 123 = .ok (.getfield 326, 3) := by decide +kernel
theorem dX11_early_126 : decode cX11_early 126 = .ok (.ireturn, 1) := by decide +kernel
theorem dX11_early_127 : decode cX11_early 127 = .ok (.aload_n 0, 1) := by decide +kernel
theorem dX11_early_128 : decode cX11_early 128 = .ok (.getfield 377, 3) := by decide +kernel
theorem dX11_early_131 : decode cX11_early 131 = .ok (.ireturn, 1) := by decide +kernel
theorem dX11_early_132 : decode cX11_early 132 = .ok (.aload_n 0, 1) := by decide +kernel
theorem dX11_early_133 : decode cX11_early 133 = .ok (.getfield 359, 3) := by decide +kernel
theorem dX11_early_136 : decode cX11_early 136 = .ok (.ireturn, 1) := by decide +kernel
theorem dX11_early_137 : decode cX11_early 137 = .ok (.aload_n 0, 1) := by decide +kernel
theorem dX11_early_138 : decode cX11_early 138 = .ok (.invokevirtual 448, 3) := by decide +kernel
theorem dX11_early_141 : decode cX11_early 141 = .ok (.ireturn, 1) := by decide +kernel
theorem dX11_best_0 : decode cX11_best 0 = .ok (.aload_n 0, 1) := by decide +kernel
theorem dX11_best_1 : decode cX11_best 1 = .ok (.iconst 0, 1) := by decide +kernel
theorem dX11_best_2 : decode cX11_best 2 = .ok (.putfield 117, 3) := by decide +kernel
theorem dX11_best_5 : decode cX11_best 5 = .ok (.aload_n 0, 1) := by decide +kernel
theorem dX11_best_6 : decode cX11_best 6 = .ok (.iload_n 1, 1) := by decide +kernel
theorem dX11_best_7 : decode cX11_best 7 = .ok (.iconst 1, 1) := by decide +kernel
theorem dX11_best_8 : decode cX11_best 8 = .ok (.bipush 10, 2) := by decide +kernel
theorem dX11_best_10 : decode cX11_best 10 = .ok (.invokestatic 172, 3) := by decide +kernel
theorem dX11_best_13 : decode cX11_best 13 = .ok (.ifCond .ne 7, 3) := by decide +kernel
theorem dX11_best_16 : decode cX11_best 16 = .ok (.iconst 1, 1) := by decide +kernel
theorem dX11_best_17 : decode cX11_best 17 = .ok (.goto 4, 3) := by decide +kernel
theorem dX11_best_20 : decode cX11_best 20 = .ok (.iconst 0, 1) := by decide +kernel
theorem dX11_best_21 : decode cX11_best 21 = .ok (.iconst 1, 1) := by decide +kernel
theorem dX11_best_22 : decode cX11_best 22 = .ok (.iconst 1, 1) := by decide +kernel
theorem dX11_best_23 : decode cX11_best 23 = .ok (.invokevirtual 179, 3) := by decide +kernel
theorem dX11_best_26 : decode cX11_best 26 = .ok (.ifCond .eq 5, 3) := by decide +kernel
theorem dX11_best_29 : decode cX11_best 29 = .ok (.iconst 0, 1) := by decide +kernel
theorem dX11_best_30 : decode cX11_best 30 = .ok (.ireturn, 1) := by decide +kernel
theorem dX11_best_31 : decode cX11_best 31 = .ok (.aload_n 0, 1) := by decide +kernel
theorem dX11_best_32 : decode cX11_best 32 = .ok (.iload_n 1, 1) := by decide +kernel
theorem dX11_best_33 : decode cX11_best 33 = .ok (.aload_n 0, 1) := by decide +kernel
theorem dX11_best_34 : decode cX11_best 34 = .ok (.getfield 20, 3) := by decide +kernel
theorem dX11_best_37 : decode cX11_best 37 = .ok (.invokevirtual 445, 3) := by decide +kernel
theorem dX11_best_40 : decode cX11_best 40 = .ok (.iload_n 2, 1) := by decide +kernel
theorem dX11_best_41 : decode cX11_best 41 = .ok (.iconst 0, 1) := by decide +kernel
theorem dX11_best_42 : decode cX11_best 42 = .ok (.aload_n 0, 1) := by decide +kernel
theorem dX11_best_43 : decode cX11_best 43 = .ok (.getfield 341, 3) := by decide +kernel
theorem dX11_best_46 : decode cX11_best 46 = .ok (.iconst 1, 1) := by decide +kernel
theorem dX11_best_47 : decode cX11_best 47 = .ok (.isub, 1) := by decide +kernel
theorem dX11_best_48 : decode cX11_best 48 = .ok (.invokestatic 172, 3) := by decide +kernel
theorem dX11_best_51 : decode cX11_best 51 = .ok (.ifCond .eq 12, 3) := by decide +kernel
theorem dX11_best_54 : decode cX11_best 54 = .ok (.aload_n 0, 1) := by decide +kernel
theorem dX11_best_55 : decode cX11_best 55 = .ok (.getfield 111, 3) := by decide +kernel
theorem dX11_best_58 : decode cX11_best 58 = .ok (.iload_n 2, 1) := by decide +kernel
theorem dX11_best_59 : decode cX11_best 59 = .ok (.iaload, 1) := by decide +kernel
theorem dX11_best_60 : decode cX11_best 60 = .ok (.goto 4, 3) := by decide +kernel
theorem dX11_best_63 : decode cX11_best 63 = .ok (.iconst (-1), 1) := by decide +kernel
theorem dX11_best_64 : decode cX11_best 64 = .ok (.ireturn, 1) := by decide +kernel
theorem dX11_opened_0 : decode cX11_opened 0 = .ok (.aload_n 0, 1) := by decide +kernel
theorem dX11_opened_1 : decode cX11_opened 1 = .ok (.iconst 0, 1) := by decide +kernel
theorem dX11_opened_2 : decode cX11_opened 2 = .ok (.putfield 117, 3) := by decide +kernel
theorem dX11_opened_5 : decode cX11_opened 5 = .ok (.iload_n 2, 1) := by decide +kernel
theorem dX11_opened_6 : decode cX11_opened 6 = .ok (.iconst 0, 1) := by decide +kernel
theorem dX11_opened_7 : decode cX11_opened 7 = .ok (.aload_n 0, 1) := by decide +kernel
theorem dX11_opened_8 : decode cX11_opened 8 = .ok (.getfield 211, 3) := by decide +kernel
theorem dX11_opened_11 : decode cX11_opened 11 = .ok (.iconst 1, 1) := by decide +kernel
theorem dX11_opened_12 : decode cX11_opened 12 = .ok (.isub, 1) := by decide +kernel
theorem dX11_opened_13 : decode cX11_opened 13 = .ok (.invokestatic 172, 3) := by decide +kernel
theorem dX11_opened_16 : decode cX11_opened 16 = .ok (.ifCond .eq 26, 3) := by decide +kernel
theorem dX11_opened_19 : decode cX11_opened 19 = .ok (.aload_n 0, 1) := by decide +kernel
theorem dX11_opened_20 : decode cX11_opened 20 = .ok (.aload_n 0, 1) := by decide +kernel
theorem dX11_opened_21 : decode cX11_opened 21 = .ok (.getfield 44, 3) := by decide +kernel
theorem dX11_opened_24 : decode cX11_opened 24 = .ok (.iload_n 2, 1) := by decide +kernel
theorem dX11_opened_25 : decode cX11_opened 25 = .ok (.bipush 23, 2) := by decide +kernel
theorem dX11_opened_27 : decode cX11_opened 27 = .ok (.invokestatic 236, 3) := by decide +kernel
theorem dX11_opened_30 : decode cX11_opened 30 = .ok (.iaload, 1) := by decide +kernel
theorem dX11_opened_31 : decode cX11_opened 31 = .ok (.iload_n 3, 1) := by decide +kernel
theorem dX11_opened_32 : decode cX11_opened 32 = .ok (.invokevirtual 423, 3) := by decide +kernel
theorem dX11_opened_35 : decode cX11_opened 35 = .ok (.ifCond .eq 7, 3) := by decide +kernel
theorem dX11_opened_38 : decode cX11_opened 38 = .ok (.iconst 1, 1) := by decide +kernel
theorem dX11_opened_39 : decode cX11_opened 39 = .ok (.goto 4, 3) := by decide +kernel
theorem dX11_opened_42 : decode cX11_opened 42 = .ok (.iconst 0, 1) := by decide +kernel
theorem dX11_opened_43 : decode cX11_opened 43 = .ok (.istore 4, 2) := by decide +kernel
theorem dX11_opened_45 : decode cX11_opened 45 = .ok (.aload_n 0, 1) := by decide +kernel
theorem dX11_opened_46 : decode cX11_opened 46 = .ok (.iload 4, 2) := by decide +kernel
theorem dX11_opened_48 : decode cX11_opened 48 = .ok (.ifCond .ne 7, 3) := by decide +kernel
theorem dX11_opened_51 : decode cX11_opened 51 = .ok (.iconst 1, 1) := by decide +kernel
theorem dX11_opened_52 : decode cX11_opened 52 = .ok (.goto 4, 3) := by decide +kernel
theorem dX11_opened_55 : decode cX11_opened 55 = .ok (.iconst 0, 1) := by decide +kernel
theorem dX11_opened_56 : decode cX11_opened 56 = .ok (.iconst 1, 1) := by decide +kernel
theorem dX11_opened_57 : decode cX11_opened 57 = .ok (.iconst 0, 1) := by decide +kernel
theorem dX11_opened_58 : decode cX11_opened 58 = .ok (.invokevirtual 179, 3) := by decide +kernel
theorem dX11_opened_61 : decode cX11_opened 61 = .ok (.ifCond .ne 27, 3) := by decide +kernel
theorem dX11_opened_64 : decode cX11_opened 64 = .ok (.aload_n 0, 1) := by decide +kernel
theorem dX11_opened_65 : decode cX11_opened 65 = .ok (.iload_n 1, 1) := by decide +kernel
theorem dX11_opened_66 : decode cX11_opened 66 = .ok (.iconst 1, 1) := by decide +kernel
theorem dX11_opened_67 : decode cX11_opened 67 = .ok (.bipush 10, 2) := by decide +kernel
theorem dX11_opened_69 : decode cX11_opened 69 = .ok (.invokestatic 172, 3) := by decide +kernel
theorem dX11_opened_72 : decode cX11_opened 72 = .ok (.ifCond .ne 7, 3) := by decide +kernel
theorem dX11_opened_75 : decode cX11_opened 75 = .ok (.iconst 1, 1) := by decide +kernel
theorem dX11_opened_76 : decode cX11_opened 76 = .ok (.goto 4, 3) := by decide +kernel
theorem dX11_opened_79 : decode cX11_opened 79 = .ok (.iconst 0, 1) := by decide +kernel
theorem dX11_opened_80 : decode cX11_opened 80 = .ok (.iconst 2, 1) := by decide +kernel
theorem dX11_opened_81 : decode cX11_opened 81 = .ok (.iconst 1, 1) := by decide +kernel
theorem dX11_opened_82 : decode cX11_opened 82 = .ok (.invokevirtual 179, 3) := by decide +kernel
theorem dX11_opened_85 : decode cX11_opened 85 = .ok (.ifCond .eq 5, 3) := by decide +kernel
theorem dX11_opened_88 : decode cX11_opened 88 = .ok (.iconst 0, 1) := by decide +kernel
theorem dX11_opened_89 : decode cX11_opened 89 = .ok (.ireturn, 1) := by decide +kernel
theorem dX11_opened_90 : decode cX11_opened 90 = .ok (.aload_n 0, 1) := by decide +kernel
theorem dX11_opened_91 : decode cX11_opened 91 = .ok (.iload_n 1, 1) := by decide +kernel
theorem dX11_opened_92 : decode cX11_opened 92 = .ok (.aload_n 0, 1) := by decide +kernel
theorem dX11_opened_93 : decode cX11_opened 93 = .ok (.getfield 20, 3) := by decide +kernel
theorem dX11_opened_96 : decode cX11_opened 96 = .ok (.invokevirtual 445, 3) := by decide +kernel
theorem dX11_opened_99 : decode cX11_opened 99 = .ok (.aload_n 0, 1) := by decide +kernel
theorem dX11_opened_100 : decode cX11_opened 100 = .ok (.getfield 83, 3) := by decide +kernel
theorem dX11_opened_103 : decode cX11_opened 103 = .ok (.iload_n 2, 1) := by decide +kernel
theorem dX11_opened_104 : decode cX11_opened 104 = .ok (.aaload, 1) := by decide +kernel
theorem dX11_opened_105 : decode cX11_opened 105 = .ok (.iload_n 3, 1) := by decide +kernel
theorem dX11_opened_106 : decode cX11_opened 106 = .ok (.iaload, 1) := by decide +kernel
theorem dX11_opened_107 : decode cX11_opened 107 = .ok (.ireturn, 1) := by decide +kernel
theorem dX11_inside_0 : decode cX11_inside 0 = .ok (.aload_n 0, 1) := by decide +kernel
theorem dX11_inside_1 : decode cX11_inside 1 = .ok (.iconst 0, 1) := by decide +kernel
theorem dX11_inside_2 : decode cX11_inside 2 = .ok (.putfield 117, 3) := by decide +kernel
theorem dX11_inside_5 : decode cX11_inside 5 = .ok (.aload_n 0, 1) := by decide +kernel
theorem dX11_inside_6 : decode cX11_inside 6 = .ok (.aload_n 0, 1) := by decide +kernel
theorem dX11_inside_7 : decode cX11_inside 7 = .ok (.iload_n 1, 1) := by decide +kernel
theorem dX11_inside_8 : decode cX11_inside 8 = .ok (.iload_n 2, 1) := by decide +kernel
theorem dX11_inside_9 : decode cX11_inside 9 = .ok (.invokevirtual 423, 3) := by decide +kernel
theorem dX11_inside_12 : decode cX11_inside 12 = .ok (.ifCond .ne 7, 3) := by decide +kernel
theorem dX11_inside_15 : decode cX11_inside 15 = .ok (.iconst 1, 1) := by decide +kernel
theorem dX11_inside_16 : decode cX11_inside 16 = .ok (.goto 4, 3) := by decide +kernel
theorem dX11_inside_19 : decode cX11_inside 19 = .ok (.iconst 0, 1) := by decide +kernel
theorem dX11_inside_20 : decode cX11_inside 20 = .ok (.iconst 1, 1) := by decide +kernel
theorem dX11_inside_21 : decode cX11_inside 21 = .ok (.iconst 0, 1) := by decide +kernel
theorem dX11_inside_22 : decode cX11_inside 22 = .ok (.invokevirtual 179, 3) := by decide +kernel
theorem dX11_inside_25 : decode cX11_inside 25 = .ok (.ifCond .eq 5, 3) := by decide +kernel
theorem dX11_inside_28 : decode cX11_inside 28 = .ok (.iconst 0, 1) := by decide +kernel
theorem dX11_inside_29 : decode cX11_inside 29 = .ok (.ireturn, 1) := by decide +kernel
theorem dX11_inside_30 : decode cX11_inside 30 = .ok (.iconst 0, 1) := by decide +kernel
theorem dX11_inside_31 : decode cX11_inside 31 = .ok (.istore_n 3, 1) := by decide +kernel
theorem dX11_inside_32 : decode cX11_inside 32 = .ok (.iload_n 2, 1) := by decide +kernel
theorem dX11_inside_33 : decode cX11_inside 33 = .ok (.aload_n 0, 1) := by decide +kernel
theorem dX11_inside_34 : decode cX11_inside 34 = .ok (.getfield 20, 3) := by decide +kernel
theorem dX11_inside_37 : decode cX11_inside 37 = .ok (.imul, 1) := by decide +kernel
theorem dX11_inside_38 : decode cX11_inside 38 = .ok (.istore 4, 2) := by decide +kernel
theorem dX11_inside_40 : decode cX11_inside 40 = .ok (.iload 4, 2) := by decide +kernel
theorem dX11_inside_42 : decode cX11_inside 42 = .ok (.iload_n 2, 1) := by decide +kernel
theorem dX11_inside_43 : decode cX11_inside 43 = .ok (.iconst 1, 1) := by decide +kernel
theorem dX11_inside_44 : decode cX11_inside 44 = .ok (.iadd, 1) := by decide +kernel
theorem dX11_inside_45 : decode cX11_inside 45 = .ok (.aload_n 0, 1) := by decide +kernel
theorem dX11_inside_46 : decode cX11_inside 46 = .ok (.getfield 20, 3) := by decide +kernel
theorem dX11_inside_49 : decode cX11_inside 49 = .ok (.imul, 1) := by decide +kernel
theorem dX11_inside_50 : decode cX11_inside 50 = .ok (.if_icmp .ge 53, 3) := by decide +kernel
theorem dX11_inside_53 : decode cX11_inside 53 = .ok (.aload_n 0, 1) := by decide +kernel
theorem dX11_inside_54 : decode cX11_inside 54 = .ok (.iload_n 1, 1) := by decide +kernel
theorem dX11_inside_55 : decode cX11_inside 55 = .ok (.invokevirtual 252, 3) := by decide +kernel
theorem dX11_inside_58 : decode cX11_inside 58 = .ok (.iload 4, 2) := by decide +kernel
theorem dX11_inside_60 : decode cX11_inside 60 = .ok (.aload_n 0, 1) := by decide +kernel
theorem dX11_inside_61 : decode cX11_inside 61 = .ok (.getfield 249, 3) := by decide +kernel
theorem dX11_inside_64 : decode cX11_inside 64 = .ok (.if_icmp .ge 33, 3) := by decide +kernel
theorem dX11_inside_67 : decode cX11_inside 67 = .ok (.aload_n 0, 1) := by decide +kernel
theorem dX11_inside_68 : decode cX11_inside 68 = .ok (.aload_n 0, 1) := by decide +kernel
theorem dX11_inside_69 : decode cX11_inside 69 = .ok (.getfield 65, 3) := by decide +kernel
theorem dX11_inside_72 : decode cX11_inside 72 = .ok (.iload 4, 2) := by decide +kernel
theorem dX11_inside_74 : decode cX11_inside 74 = .ok (.iaload, 1) := by decide +kernel
theorem dX11_inside_75 : decode cX11_inside 75 = .ok (.invokevirtual 302, 3) := by decide +kernel
theorem dX11_inside_78 : decode cX11_inside 78 = .ok (.ifCond .ne 19, 3) := by decide +kernel
theorem dX11_inside_81 : decode cX11_inside 81 = .ok (.iload_n 3, 1) := by decide +kernel
theorem dX11_inside_82 : decode cX11_inside 82 = .ok (.aload_n 0, 1) := by decide +kernel
theorem dX11_inside_83 : decode cX11_inside 83 = .ok (.aload_n 0, 1) := by decide +kernel
theorem dX11_inside_84 : decode cX11_inside 84 = .ok (.getfield 65, 3) := by decide +kernel
theorem dX11_inside_87 : decode cX11_inside 87 = .ok (.iload 4, 2) := by decide +kernel
theorem dX11_inside_89 : decode cX11_inside 89 = .ok (.iaload, 1) := by decide +kernel
theorem dX11_inside_90 : decode cX11_inside 90 = .ok (.invokevirtual 305, 3) := by decide +kernel
theorem dX11_inside_93 : decode cX11_inside 93 = .ok (.invokestatic 261, 3) := by decide +kernel
theorem dX11_inside_96 : decode cX11_inside 96 = .ok (.istore_n 3, 1) := by decide +kernel
theorem dX11_inside_97 : decode cX11_inside 97 = .ok (.iinc 4 1, 3) := by decide +kernel
theorem dX11_inside_100 : decode cX11_inside 100 = .ok (.goto (-60), 3) := by decide +kernel
theorem dX11_inside_103 : decode cX11_inside 103 = .ok (.iload_n 3, 1) := by decide +kernel
theorem dX11_inside_104 : decode cX11_inside 104 = .ok (.ireturn, 1) := by decide +kernel
theorem dX11_bits_0 : decode cX11_bits 0 = .ok (.aload_n 0, 1) := by decide +kernel
theorem dX11_bits_1 : decode cX11_bits 1 = .ok (.iconst 0, 1) := by decide +kernel
theorem dX11_bits_2 : decode cX11_bits 2 = .ok (.putfield 117, 3) := by decide +kernel
theorem dX11_bits_5 : decode cX11_bits 5 = .ok (.aload_n 0, 1) := by decide +kernel
theorem dX11_bits_6 : decode cX11_bits 6 = .ok (.iload_n 1, 1) := by decide +kernel
theorem dX11_bits_7 : decode cX11_bits 7 = .ok (.iconst 2, 1) := by decide +kernel
theorem dX11_bits_8 : decode cX11_bits 8 = .ok (.bipush 8, 2) := by decide +kernel
theorem dX11_bits_10 : decode cX11_bits 10 = .ok (.invokestatic 172, 3) := by decide +kernel
theorem dX11_bits_13 : decode cX11_bits 13 = .ok (.ifCond .ne 7, 3) := by decide +kernel
theorem dX11_bits_16 : decode cX11_bits 16 = .ok (.iconst 1, 1) := by decide +kernel
theorem dX11_bits_17 : decode cX11_bits 17 = .ok (.goto 4, 3) := by decide +kernel
theorem dX11_bits_20 : decode cX11_bits 20 = .ok (.iconst 0, 1) := by decide +kernel
theorem dX11_bits_21 : decode cX11_bits 21 = .ok (.iconst 1, 1) := by decide +kernel
theorem dX11_bits_22 : decode cX11_bits 22 = .ok (.iconst 1, 1) := by decide +kernel
theorem dX11_bits_23 : decode cX11_bits 23 = .ok (.invokevirtual 179, 3) := by decide +kernel
theorem dX11_bits_26 : decode cX11_bits 26 = .ok (.ifCond .eq 5, 3) := by decide +kernel
theorem dX11_bits_29 : decode cX11_bits 29 = .ok (.iconst 0, 1) := by decide +kernel
theorem dX11_bits_30 : decode cX11_bits 30 = .ok (.ireturn, 1) := by decide +kernel
theorem dX11_bits_31 : decode cX11_bits 31 = .ok (.aload_n 0, 1) := by decide +kernel
theorem dX11_bits_32 : decode cX11_bits 32 = .ok (.iload_n 1, 1) := by decide +kernel
theorem dX11_bits_33 : decode cX11_bits 33 = .ok (.invokevirtual 399, 3) := by decide +kernel
theorem dX11_bits_36 : decode cX11_bits 36 = .ok (.ireturn, 1) := by decide +kernel
theorem dX11_thrift_0 : decode cX11_thrift 0 = .ok (.aload_n 0, 1) := by decide +kernel
theorem dX11_thrift_1 : decode cX11_thrift 1 = .ok (.iconst 0, 1) := by decide +kernel
theorem dX11_thrift_2 : decode cX11_thrift 2 = .ok (.putfield 117, 3) := by decide +kernel
theorem dX11_thrift_5 : decode cX11_thrift 5 = .ok (.iconst 2, 1) := by decide +kernel
theorem dX11_thrift_6 : decode cX11_thrift 6 = .ok (.istore_n 1, 1) := by decide +kernel
theorem dX11_thrift_7 : decode cX11_thrift 7 = .ok (.iconst 3, 1) := by decide +kernel
theorem dX11_thrift_8 : decode cX11_thrift 8 = .ok (.istore_n 2, 1) := by decide +kernel
theorem dX11_thrift_9 : decode cX11_thrift 9 = .ok (.iload_n 2, 1) := by decide +kernel
theorem dX11_thrift_10 : decode cX11_thrift 10 = .ok (.bipush 8, 2) := by decide +kernel
theorem dX11_thrift_12 : decode cX11_thrift 12 = .ok (.if_icmp .gt 28, 3) := by decide +kernel
theorem dX11_thrift_15 : decode cX11_thrift 15 = .ok (.aload_n 0, 1) := by decide +kernel
theorem dX11_thrift_16 : decode cX11_thrift 16 = .ok (.iload_n 2, 1) := by decide +kernel
theorem dX11_thrift_17 : decode cX11_thrift 17 = .ok (.invokevirtual 399, 3) := by decide +kernel
theorem dX11_thrift_20 : decode cX11_thrift 20 = .ok (.aload_n 0, 1) := by decide +kernel
theorem dX11_thrift_21 : decode cX11_thrift 21 = .ok (.iload_n 1, 1) := by decide +kernel
theorem dX11_thrift_22 : decode cX11_thrift 22 = .ok (.invokevirtual 399, 3) := by decide +kernel
theorem dX11_thrift_25 : decode cX11_thrift 25 = .ok (.if_icmp .ge 7, 3) := by decide +kernel
theorem dX11_thrift_28 : decode cX11_thrift 28 = .ok (.iload_n 2, 1) := by decide +kernel
theorem dX11_thrift_29 : decode cX11_thrift 29 = .ok (.goto 4, 3) := by decide +kernel
theorem dX11_thrift_32 : decode cX11_thrift 32 = .ok (.iload_n 1, 1) := by decide +kernel
theorem dX11_thrift_33 : decode cX11_thrift 33 = .ok (.istore_n 1, 1) := by decide +kernel
theorem dX11_thrift_34 : decode cX11_thrift 34 = .ok (.iinc 2 1, 3) := by decide +kernel
theorem dX11_thrift_37 : decode cX11_thrift 37 = .ok (.goto (-28), 3) := by decide +kernel
theorem dX11_thrift_40 : decode cX11_thrift 40 = .ok (.iload_n 1, 1) := by decide +kernel
theorem dX11_thrift_41 : decode cX11_thrift 41 = .ok (.ireturn, 1) := by decide +kernel
theorem dX11_swift_0 : decode cX11_swift 0 = .ok (.aload_n 0, 1) := by decide +kernel
theorem dX11_swift_1 : decode cX11_swift 1 = .ok (.iconst 0, 1) := by decide +kernel
theorem dX11_swift_2 : decode cX11_swift 2 = .ok (.putfield 117, 3) := by decide +kernel
theorem dX11_swift_5 : decode cX11_swift 5 = .ok (.aload_n 0, 1) := by decide +kernel
theorem dX11_swift_6 : decode cX11_swift 6 = .ok (.iload_n 1, 1) := by decide +kernel
theorem dX11_swift_7 : decode cX11_swift 7 = .ok (.iconst 1, 1) := by decide +kernel
theorem dX11_swift_8 : decode cX11_swift 8 = .ok (.bipush 10, 2) := by decide +kernel
theorem dX11_swift_10 : decode cX11_swift 10 = .ok (.invokestatic 172, 3) := by decide +kernel
theorem dX11_swift_13 : decode cX11_swift 13 = .ok (.ifCond .eq 12, 3) := by decide +kernel
theorem dX11_swift_16 : decode cX11_swift 16 = .ok (.iload_n 2, 1) := by decide +kernel
theorem dX11_swift_17 : decode cX11_swift 17 = .ok (.iconst 0, 1) := by decide +kernel
theorem dX11_swift_18 : decode cX11_swift 18 = .ok (.iconst 1, 1) := by decide +kernel
theorem dX11_swift_19 : decode cX11_swift 19 = .ok (.invokestatic 172, 3) := by decide +kernel
theorem dX11_swift_22 : decode cX11_swift 22 = .ok (.ifCond .ne 7, 3) := by decide +kernel
theorem dX11_swift_25 : decode cX11_swift 25 = .ok (.iconst 1, 1) := by decide +kernel
theorem dX11_swift_26 : decode cX11_swift 26 = .ok (.goto 4, 3) := by decide +kernel
theorem dX11_swift_29 : decode cX11_swift 29 = .ok (.iconst 0, 1) := by decide +kernel
theorem dX11_swift_30 : decode cX11_swift 30 = .ok (.iconst 1, 1) := by decide +kernel
theorem dX11_swift_31 : decode cX11_swift 31 = .ok (.iconst 1, 1) := by decide +kernel
theorem dX11_swift_32 : decode cX11_swift 32 = .ok (.invokevirtual 179, 3) := by decide +kernel
theorem dX11_swift_35 : decode cX11_swift 35 = .ok (.ifCond .eq 5, 3) := by decide +kernel
theorem dX11_swift_38 : decode cX11_swift 38 = .ok (.iconst 0, 1) := by decide +kernel
theorem dX11_swift_39 : decode cX11_swift 39 = .ok (.ireturn, 1) := by decide +kernel
theorem dX11_swift_40 : decode cX11_swift 40 = .ok (.iconst (-1), 1) := by decide +kernel
theorem dX11_swift_41 : decode cX11_swift 41 = .ok (.istore_n 3, 1) := by decide +kernel
theorem dX11_swift_42 : decode cX11_swift 42 = .ok (.iconst 0, 1) := by decide +kernel
theorem dX11_swift_43 : decode cX11_swift 43 = .ok (.istore 4, 2) := by decide +kernel
theorem dX11_swift_45 : decode cX11_swift 45 = .ok (.iconst 2, 1) := by decide +kernel
theorem dX11_swift_46 : decode cX11_swift 46 = .ok (.istore 5, 2) := by decide +kernel
theorem dX11_swift_48 : decode cX11_swift 48 = .ok (.iload 5, 2) := by decide +kernel
theorem dX11_swift_50 : decode cX11_swift 50 = .ok (.bipush 8, 2) := by decide +kernel
theorem dX11_swift_52 : decode cX11_swift 52 = .ok (.if_icmp .gt 42, 3) := by decide +kernel
theorem dX11_swift_55 : decode cX11_swift 55 = .ok (.aload_n 0, 1) := by decide +kernel
theorem dX11_swift_56 : decode cX11_swift 56 = .ok (.iload_n 1, 1) := by decide +kernel
theorem dX11_swift_57 : decode cX11_swift 57 = .ok (.iload 5, 2) := by decide +kernel
theorem dX11_swift_59 : decode cX11_swift 59 = .ok (.invokevirtual 445, 3) := by decide +kernel
theorem dX11_swift_62 : decode cX11_swift 62 = .ok (.iload_n 3, 1) := by decide +kernel
theorem dX11_swift_63 : decode cX11_swift 63 = .ok (.iconst (-1), 1) := by decide +kernel
theorem dX11_swift_64 : decode cX11_swift 64 = .ok (.if_icmp .eq 15, 3) := by decide +kernel
theorem dX11_swift_67 : decode cX11_swift 67 = .ok (.aload_n 0, 1) := by decide +kernel
theorem dX11_swift_68 : decode cX11_swift 68 = .ok (.getfield 335, 3) := by decide +kernel
theorem dX11_swift_71 : decode cX11_swift 71 = .ok (.iload 4, 2) := by decide +kernel
theorem dX11_swift_73 : decode cX11_swift 73 = .ok (.if_icmp .lt 6, 3) := by decide +kernel
theorem dX11_swift_76 : decode cX11_swift 76 = .ok (.goto 12, 3) := by decide +kernel
theorem dX11_swift_79 : decode cX11_swift 79 = .ok (.iload 5, 2) := by decide +kernel
theorem dX11_swift_81 : decode cX11_swift 81 = .ok (.istore_n 3, 1) := by decide +kernel
theorem dX11_swift_82 : decode cX11_swift 82 = .ok (.aload_n 0, 1) := by decide +kernel
theorem dX11_swift_83 : decode cX11_swift 83 = .ok (.getfield 335, 3) := by decide +kernel
theorem dX11_swift_86 : decode cX11_swift 86 = .ok (.istore 4, 2) := by decide +kernel
theorem dX11_swift_88 : decode cX11_swift 88 = .ok (.iinc 5 1, 3) := by decide +kernel
theorem dX11_swift_91 : decode cX11_swift 91 = .ok (.goto (-43), 3) := by decide +kernel
theorem dX11_swift_94 : decode cX11_swift 94 = .ok (.iload_n 2, 1) := by decide +kernel
theorem dX11_swift_95 : decode cX11_swift 95 = .ok (.ifCond .ne 7, 3) := by decide +kernel
theorem dX11_swift_98 : decode cX11_swift 98 = .ok (.iload_n 3, 1) := by decide +kernel
theorem dX11_swift_99 : decode cX11_swift 99 = .ok (.goto 5, 3) := by decide +kernel
theorem dX11_swift_102 : decode cX11_swift 102 = .ok (.iload 4, 2) := by decide +kernel
theorem dX11_swift_104 : decode cX11_swift 104 = .ok (.ireturn, 1) := by decide +kernel
theorem dX11_blockOf_0 : decode cX11_blockOf 0 = .ok (.aload_n 0, 1) := by decide +kernel
theorem dX11_blockOf_1 : decode cX11_blockOf 1 = .ok (.iconst 0, 1) := by decide +kernel
theorem dX11_blockOf_2 : decode cX11_blockOf 2 = .ok (.putfield 117, 3) := by decide +kernel
theorem dX11_blockOf_5 : decode cX11_blockOf 5 = .ok (.aload_n 0, 1) := by decide +kernel
theorem dX11_blockOf_6 : decode cX11_blockOf 6 = .ok (.aload_n 0, 1) := by decide +kernel
theorem dX11_blockOf_7 : decode cX11_blockOf 7 = .ok (.iload_n 1, 1) := by decide +kernel
theorem dX11_blockOf_8 : decode cX11_blockOf 8 = .ok (.invokevirtual 414, 3) := by decide +kernel
theorem dX11_blockOf_11 : decode cX11_blockOf 11 = .ok (.ifCond .eq 11, 3) := by decide +kernel
theorem dX11_blockOf_14 : decode cX11_blockOf 14 = .ok (.aload_n 0, 1) := by decide +kernel
theorem dX11_blockOf_15 : decode cX11_blockOf 15 = .ok (.iload_n 2, 1) := by decide +kernel
theorem dX11_blockOf_16 : decode cX11_blockOf 16 = .ok (.invokevirtual 402, 3) := by decide +kernel
theorem dX11_blockOf_19 : decode cX11_blockOf 19 = .ok (.ifCond .ne 7, 3) := by decide +kernel
theorem dX11_blockOf_22 : decode cX11_blockOf 22 = .ok (.iconst 1, 1) := by decide +kernel
theorem dX11_blockOf_23 : decode cX11_blockOf 23 = .ok (.goto 4, 3) := by decide +kernel
theorem dX11_blockOf_26 : decode cX11_blockOf 26 = .ok (.iconst 0, 1) := by decide +kernel
theorem dX11_blockOf_27 : decode cX11_blockOf 27 = .ok (.iconst 1, 1) := by decide +kernel
theorem dX11_blockOf_28 : decode cX11_blockOf 28 = .ok (.iconst 0, 1) := by decide +kernel
theorem dX11_blockOf_29 : decode cX11_blockOf 29 = .ok (.invokevirtual 179, 3) := by decide +kernel
theorem dX11_blockOf_32 : decode cX11_blockOf 32 = .ok (.ifCond .eq 5, 3) := by decide +kernel
theorem dX11_blockOf_35 : decode cX11_blockOf 35 = .ok (.iconst 0, 1) := by decide +kernel
theorem dX11_blockOf_36 : decode cX11_blockOf 36 = .ok (.ireturn, 1) := by decide +kernel
theorem dX11_blockOf_37 : decode cX11_blockOf 37 = .ok (.aload_n 0, 1) := by decide +kernel
theorem dX11_blockOf_38 : decode cX11_blockOf 38 = .ok (.iload_n 1, 1) := by decide +kernel
theorem dX11_blockOf_39 : decode cX11_blockOf 39 = .ok (.invokevirtual 252, 3) := by decide +kernel
theorem dX11_blockOf_42 : decode cX11_blockOf 42 = .ok (.iconst 0, 1) := by decide +kernel
theorem dX11_blockOf_43 : decode cX11_blockOf 43 = .ok (.istore_n 3, 1) := by decide +kernel
theorem dX11_blockOf_44 : decode cX11_blockOf 44 = .ok (.iload_n 3, 1) := by decide +kernel
theorem dX11_blockOf_45 : decode cX11_blockOf 45 = .ok (.aload_n 0, 1) := by decide +kernel
theorem dX11_blockOf_46 : decode cX11_blockOf 46 = .ok (.getfield 249, 3) := by decide +kernel
theorem dX11_blockOf_49 : decode cX11_blockOf 49 = .ok (.if_icmp .ge 54, 3) := by decide +kernel
theorem dX11_blockOf_52 : decode cX11_blockOf 52 = .ok (.aload_n 0, 1) := by decide +kernel
theorem dX11_blockOf_53 : decode cX11_blockOf 53 = .ok (.getfield 65, 3) := by decide +kernel
theorem dX11_blockOf_56 : decode cX11_blockOf 56 = .ok (.iload_n 3, 1) := by decide +kernel
theorem dX11_blockOf_57 : decode cX11_blockOf 57 = .ok (.iaload, 1) := by decide +kernel
theorem dX11_blockOf_58 : decode cX11_blockOf 58 = .ok (.iload_n 2, 1) := by decide +kernel
theorem dX11_blockOf_59 : decode cX11_blockOf 59 = .ok (.if_icmp .gt 34, 3) := by decide +kernel
theorem dX11_blockOf_62 : decode cX11_blockOf 62 = .ok (.aload_n 0, 1) := by decide +kernel
theorem dX11_blockOf_63 : decode cX11_blockOf 63 = .ok (.getfield 65, 3) := by decide +kernel
theorem dX11_blockOf_66 : decode cX11_blockOf 66 = .ok (.aload_n 0, 1) := by decide +kernel
theorem dX11_blockOf_67 : decode cX11_blockOf 67 = .ok (.getfield 249, 3) := by decide +kernel
theorem dX11_blockOf_70 : decode cX11_blockOf 70 = .ok (.iload_n 3, 1) := by decide +kernel
theorem dX11_blockOf_71 : decode cX11_blockOf 71 = .ok (.aload_n 0, 1) := by decide +kernel
theorem dX11_blockOf_72 : decode cX11_blockOf 72 = .ok (.getfield 20, 3) := by decide +kernel
theorem dX11_blockOf_75 : decode cX11_blockOf 75 = .ok (.iadd, 1) := by decide +kernel
theorem dX11_blockOf_76 : decode cX11_blockOf 76 = .ok (.invokestatic 236, 3) := by decide +kernel
theorem dX11_blockOf_79 : decode cX11_blockOf 79 = .ok (.iconst 1, 1) := by decide +kernel
theorem dX11_blockOf_80 : decode cX11_blockOf 80 = .ok (.isub, 1) := by decide +kernel
theorem dX11_blockOf_81 : decode cX11_blockOf 81 = .ok (.iaload, 1) := by decide +kernel
theorem dX11_blockOf_82 : decode cX11_blockOf 82 = .ok (.iload_n 2, 1) := by decide +kernel
theorem dX11_blockOf_83 : decode cX11_blockOf 83 = .ok (.if_icmp .lt 10, 3) := by decide +kernel
theorem dX11_blockOf_86 : decode cX11_blockOf 86 = .ok (.iload_n 3, 1) := by decide +kernel
theorem dX11_blockOf_87 : decode cX11_blockOf 87 = .ok (.aload_n 0, 1) := by decide +kernel
theorem dX11_blockOf_88 : decode cX11_blockOf 88 = .ok (.getfield 20, 3) := by decide +kernel
theorem dX11_blockOf_91 : decode cX11_blockOf 91 = .ok (.idiv, 1) := by decide +kernel
theorem dX11_blockOf_92 : decode cX11_blockOf 92 = .ok (.ireturn, 1) := by decide +kernel
theorem dX11_blockOf_93 : decode cX11_blockOf 93 = .ok (.iload_n 3, 1) := by decide +kernel
theorem dX11_blockOf_94 : decode cX11_blockOf 94 = .ok (.aload_n 0, 1) := by decide +kernel
theorem dX11_blockOf_95 : decode cX11_blockOf 95 = .ok (.getfield 20, 3) := by decide +kernel
theorem dX11_blockOf_98 : decode cX11_blockOf 98 = .ok (.iadd, 1) := by decide +kernel
theorem dX11_blockOf_99 : decode cX11_blockOf 99 = .ok (.istore_n 3, 1) := by decide +kernel
theorem dX11_blockOf_100 : decode cX11_blockOf 100 = .ok (.goto (-56), 3) := by decide +kernel
theorem dX11_blockOf_103 : decode cX11_blockOf 103 = .ok (.iconst (-1), 1) := by decide +kernel
theorem dX11_blockOf_104 : decode cX11_blockOf 104 = .ok (.ireturn, 1) := by decide +kernel
theorem dX11_full_0 : decode cX11_full 0 = .ok (.aload_n 0, 1) := by decide +kernel
theorem dX11_full_1 : decode cX11_full 1 = .ok (.iconst 0, 1) := by decide +kernel
theorem dX11_full_2 : decode cX11_full 2 = .ok (.putfield 117, 3) := by decide +kernel
theorem dX11_full_5 : decode cX11_full 5 = .ok (.iconst 0, 1) := by decide +kernel
theorem dX11_full_6 : decode cX11_full 6 = .ok (.istore_n 1, 1) := by decide +kernel
theorem dX11_full_7 : decode cX11_full 7 = .ok (.iconst 0, 1) := by decide +kernel
theorem dX11_full_8 : decode cX11_full 8 = .ok (.istore_n 2, 1) := by decide +kernel
theorem dX11_full_9 : decode cX11_full 9 = .ok (.iload_n 2, 1) := by decide +kernel
theorem dX11_full_10 : decode cX11_full 10 = .ok (.aload_n 0, 1) := by decide +kernel
theorem dX11_full_11 : decode cX11_full 11 = .ok (.getfield 176, 3) := by decide +kernel
theorem dX11_full_14 : decode cX11_full 14 = .ok (.if_icmp .ge 87, 3) := by decide +kernel
theorem dX11_full_17 : decode cX11_full 17 = .ok (.aload_n 0, 1) := by decide +kernel
theorem dX11_full_18 : decode cX11_full 18 = .ok (.getfield 211, 3) := by decide +kernel
theorem dX11_full_21 : decode cX11_full 21 = .ok (.ifCond .le 80, 3) := by decide +kernel
theorem dX11_full_24 : decode cX11_full 24 = .ok (.aload_n 0, 1) := by decide +kernel
theorem dX11_full_25 : decode cX11_full 25 = .ok (.getfield 31, 3) := by decide +kernel
theorem dX11_full_28 : decode cX11_full 28 = .ok (.iload_n 2, 1) := by decide +kernel
theorem dX11_full_29 : decode cX11_full 29 = .ok (.iaload, 1) := by decide +kernel
theorem dX11_full_30 : decode cX11_full 30 = .ok (.iconst 1, 1) := by decide +kernel
theorem dX11_full_31 : decode cX11_full 31 = .ok (.if_icmp .ne 7, 3) := by decide +kernel
theorem dX11_full_34 : decode cX11_full 34 = .ok (.iconst 1, 1) := by decide +kernel
theorem dX11_full_35 : decode cX11_full 35 = .ok (.goto 4, 3) := by decide +kernel
theorem dX11_full_38 : decode cX11_full 38 = .ok (.iconst 0, 1) := by decide +kernel
theorem dX11_full_39 : decode cX11_full 39 = .ok (.istore_n 3, 1) := by decide +kernel
theorem dX11_full_40 : decode cX11_full 40 = .ok (.iconst 0, 1) := by decide +kernel
theorem dX11_full_41 : decode cX11_full 41 = .ok (.istore 4, 2) := by decide +kernel
theorem dX11_full_43 : decode cX11_full 43 = .ok (.iload 4, 2) := by decide +kernel
theorem dX11_full_45 : decode cX11_full 45 = .ok (.aload_n 0, 1) := by decide +kernel
theorem dX11_full_46 : decode cX11_full 46 = .ok (.getfield 211, 3) := by decide +kernel
theorem dX11_full_49 : decode cX11_full 49 = .ok (.if_icmp .ge 34, 3) := by decide +kernel
theorem dX11_full_52 : decode cX11_full 52 = .ok (.iload_n 3, 1) := by decide +kernel
theorem dX11_full_53 : decode cX11_full 53 = .ok (.aload_n 0, 1) := by decide +kernel
theorem dX11_full_54 : decode cX11_full 54 = .ok (.getfield 41, 3) := by decide +kernel
theorem dX11_full_57 : decode cX11_full 57 = .ok (.aload_n 0, 1) := by decide +kernel
theorem dX11_full_58 : decode cX11_full 58 = .ok (.getfield 44, 3) := by decide +kernel
theorem dX11_full_61 : decode cX11_full 61 = .ok (.iload 4, 2) := by decide +kernel
theorem dX11_full_63 : decode cX11_full 63 = .ok (.iaload, 1) := by decide +kernel
theorem dX11_full_64 : decode cX11_full 64 = .ok (.aaload, 1) := by decide +kernel
theorem dX11_full_65 : decode cX11_full 65 = .ok (.iload_n 2, 1) := by decide +kernel
theorem dX11_full_66 : decode cX11_full 66 = .ok (.iaload, 1) := by decide +kernel
theorem dX11_full_67 : decode cX11_full 67 = .ok (.ifCond .le 7, 3) := by decide +kernel
theorem dX11_full_70 : decode cX11_full 70 = .ok (.iconst 1, 1) := by decide +kernel
theorem dX11_full_71 : decode cX11_full 71 = .ok (.goto 4, 3) := by decide +kernel
theorem dX11_full_74 : decode cX11_full 74 = .ok (.iconst 0, 1) := by decide +kernel
theorem dX11_full_75 : decode cX11_full 75 = .ok (.iand, 1) := by decide +kernel
theorem dX11_full_76 : decode cX11_full 76 = .ok (.istore_n 3, 1) := by decide +kernel
theorem dX11_full_77 : decode cX11_full 77 = .ok (.iinc 4 1, 3) := by decide +kernel
theorem dX11_full_80 : decode cX11_full 80 = .ok (.goto (-37), 3) := by decide +kernel
theorem dX11_full_83 : decode cX11_full 83 = .ok (.iload_n 1, 1) := by decide +kernel
theorem dX11_full_84 : decode cX11_full 84 = .ok (.iload_n 3, 1) := by decide +kernel
theorem dX11_full_85 : decode cX11_full 85 = .ok (.ifCond .eq 7, 3) := by decide +kernel
theorem dX11_full_88 : decode cX11_full 88 = .ok (.iconst 1, 1) := by decide +kernel
theorem dX11_full_89 : decode cX11_full 89 = .ok (.goto 4, 3) := by decide +kernel
theorem dX11_full_92 : decode cX11_full 92 = .ok (.iconst 0, 1) := by decide +kernel
theorem dX11_full_93 : decode cX11_full 93 = .ok (.iadd, 1) := by decide +kernel
theorem dX11_full_94 : decode cX11_full 94 = .ok (.istore_n 1, 1) := by decide +kernel
theorem dX11_full_95 : decode cX11_full 95 = .ok (.iinc 2 1, 3) := by decide +kernel
theorem dX11_full_98 : decode cX11_full 98 = .ok (.goto (-89), 3) := by decide +kernel
theorem dX11_full_101 : decode cX11_full 101 = .ok (.iload_n 1, 1) := by decide +kernel
theorem dX11_full_102 : decode cX11_full 102 = .ok (.ireturn, 1) := by decide +kernel
theorem dX11_spread_0 : decode cX11_spread 0 = .ok (.aload_n 0, 1) := by decide +kernel
theorem dX11_spread_1 : decode cX11_spread 1 = .ok (.iconst 0, 1) := by decide +kernel
theorem dX11_spread_2 : decode cX11_spread 2 = .ok (.putfield 117, 3) := by decide +kernel
theorem dX11_spread_5 : decode cX11_spread 5 = .ok (.aload_n 0, 1) := by decide +kernel
theorem dX11_spread_6 : decode cX11_spread 6 = .ok (.iload_n 1, 1) := by decide +kernel
theorem dX11_spread_7 : decode cX11_spread 7 = .ok (.iconst 0, 1) := by decide +kernel
theorem dX11_spread_8 : decode cX11_spread 8 = .ok (.bipush 64, 2) := by decide +kernel
theorem dX11_spread_10 : decode cX11_spread 10 = .ok (.invokestatic 172, 3) := by decide +kernel
theorem dX11_spread_13 : decode cX11_spread 13 = .ok (.ifCond .ne 7, 3) := by decide +kernel
theorem dX11_spread_16 : decode cX11_spread 16 = .ok (.iconst 1, 1) := by decide +kernel
theorem dX11_spread_17 : decode cX11_spread 17 = .ok (.goto 4, 3) := by decide +kernel
theorem dX11_spread_20 : decode cX11_spread 20 = .ok (.iconst 0, 1) := by decide +kernel
theorem dX11_spread_21 : decode cX11_spread 21 = .ok (.iconst 1, 1) := by decide +kernel
theorem dX11_spread_22 : decode cX11_spread 22 = .ok (.iconst 1, 1) := by decide +kernel
theorem dX11_spread_23 : decode cX11_spread 23 = .ok (.invokevirtual 179, 3) := by decide +kernel
theorem dX11_spread_26 : decode cX11_spread 26 = .ok (.ifCond .eq 5, 3) := by decide +kernel
theorem dX11_spread_29 : decode cX11_spread 29 = .ok (.iconst 0, 1) := by decide +kernel
theorem dX11_spread_30 : decode cX11_spread 30 = .ok (.ireturn, 1) := by decide +kernel
theorem dX11_spread_31 : decode cX11_spread 31 = .ok (.iconst 0, 1) := by decide +kernel
theorem dX11_spread_32 : decode cX11_spread 32 = .ok (.istore_n 2, 1) := by decide +kernel
theorem dX11_spread_33 : decode cX11_spread 33 = .ok (.iconst 0, 1) := by decide +kernel
theorem dX11_spread_34 : decode cX11_spread 34 = .ok (.istore_n 3, 1) := by decide +kernel
theorem dX11_spread_35 : decode cX11_spread 35 = .ok (.iload_n 3, 1) := by decide +kernel
theorem dX11_spread_36 : decode cX11_spread 36 = .ok (.aload_n 0, 1) := by decide +kernel
theorem dX11_spread_37 : decode cX11_spread 37 = .ok (.getfield 162, 3) := by decide +kernel
theorem dX11_spread_40 : decode cX11_spread 40 = .ok (.if_icmp .ge 30, 3) := by decide +kernel
theorem dX11_spread_43 : decode cX11_spread 43 = .ok (.aload_n 0, 1) := by decide +kernel
theorem dX11_spread_44 : decode cX11_spread 44 = .ok (.iload_n 3, 1) := by decide +kernel
theorem dX11_spread_45 : decode cX11_spread 45 = .ok (.invokevirtual 252, 3) := by decide +kernel
theorem dX11_spread_48 : decode cX11_spread 48 = .ok (.iload_n 2, 1) := by decide +kernel
theorem dX11_spread_49 : decode cX11_spread 49 = .ok (.aload_n 0, 1) := by decide +kernel
theorem dX11_spread_50 : decode cX11_spread 50 = .ok (.getfield 249, 3) := by decide +kernel
theorem dX11_spread_53 : decode cX11_spread 53 = .ok (.iload_n 1, 1) := by decide +kernel
theorem dX11_spread_54 : decode cX11_spread 54 = .ok (.if_icmp .ne 7, 3) := by decide +kernel
theorem dX11_spread_57 : decode cX11_spread 57 = .ok (.iconst 1, 1) := by decide +kernel
theorem dX11_spread_58 : decode cX11_spread 58 = .ok (.goto 4, 3) := by decide +kernel
theorem dX11_spread_61 : decode cX11_spread 61 = .ok (.iconst 0, 1) := by decide +kernel
theorem dX11_spread_62 : decode cX11_spread 62 = .ok (.iadd, 1) := by decide +kernel
theorem dX11_spread_63 : decode cX11_spread 63 = .ok (.istore_n 2, 1) := by decide +kernel
theorem dX11_spread_64 : decode cX11_spread 64 = .ok (.iinc 3 1, 3) := by decide +kernel
theorem dX11_spread_67 : decode cX11_spread 67 = .ok (.goto (-32), 3) := by decide +kernel
theorem dX11_spread_70 : decode cX11_spread 70 = .ok (.iload_n 2, 1) := by decide +kernel
theorem dX11_spread_71 : decode cX11_spread 71 = .ok (.ireturn, 1) := by decide +kernel
theorem dX11_inBoth_0 : decode cX11_inBoth 0 = .ok (.iconst 0, 1) := by decide +kernel
theorem dX11_inBoth_1 : decode cX11_inBoth 1 = .ok (.istore_n 3, 1) := by decide +kernel
theorem dX11_inBoth_2 : decode cX11_inBoth 2 = .ok (.iconst 0, 1) := by decide +kernel
theorem dX11_inBoth_3 : decode cX11_inBoth 3 = .ok (.istore 4, 2) := by decide +kernel
theorem dX11_inBoth_5 : decode cX11_inBoth 5 = .ok (.iload 4, 2) := by decide +kernel
theorem dX11_inBoth_7 : decode cX11_inBoth 7 = .ok (.aload_n 0, 1) := by decide +kernel
theorem dX11_inBoth_8 : decode cX11_inBoth 8 = .ok (.getfield 162, 3) := by decide +kernel
theorem dX11_inBoth_11 : decode cX11_inBoth 11 = .ok (.if_icmp .ge 41, 3) := by decide +kernel
theorem dX11_inBoth_14 : decode cX11_inBoth 14 = .ok (.iload_n 3, 1) := by decide +kernel
theorem dX11_inBoth_15 : decode cX11_inBoth 15 = .ok (.aload_n 0, 1) := by decide +kernel
theorem dX11_inBoth_16 : decode cX11_inBoth 16 = .ok (.getfield 41, 3) := by decide +kernel
theorem dX11_inBoth_19 : decode cX11_inBoth 19 = .ok (.iload 4, 2) := by decide +kernel
theorem dX11_inBoth_21 : decode cX11_inBoth 21 = .ok (.aaload, 1) := by decide +kernel
theorem dX11_inBoth_22 : decode cX11_inBoth 22 = .ok (.iload_n 1, 1) := by decide +kernel
theorem dX11_inBoth_23 : decode cX11_inBoth 23 = .ok (.iaload, 1) := by decide +kernel
theorem dX11_inBoth_24 : decode cX11_inBoth 24 = .ok (.ifCond .le 19, 3) := by decide +kernel
theorem dX11_inBoth_27 : decode cX11_inBoth 27 = .ok (.aload_n 0, 1) := by decide +kernel
theorem dX11_inBoth_28 : decode cX11_inBoth 28 = .ok (.getfield 41, 3) := by decide +kernel
theorem dX11_inBoth_31 : decode cX11_inBoth 31 = .ok (.iload 4, 2) := by decide +kernel
theorem dX11_inBoth_33 : decode cX11_inBoth 33 = .ok (.aaload, 1) := by decide +kernel
theorem dX11_inBoth_34 : decode cX11_inBoth 34 = .ok (.iload_n 2, 1) := by decide +kernel
theorem dX11_inBoth_35 : decode cX11_inBoth 35 = .ok (.iaload, 1) := by decide +kernel
theorem dX11_inBoth_36 : decode cX11_inBoth 36 = .ok (.ifCond .le 7, 3) := by decide +kernel
theorem dX11_inBoth_39 : decode cX11_inBoth 39 = .ok (.iconst 1, 1) := by decide +kernel
theorem dX11_inBoth_40 : decode cX11_inBoth 40 = .ok (.goto 4, 3) := by decide +kernel
theorem dX11_inBoth_43 : decode cX11_inBoth 43 = .ok (.iconst 0, 1) := by decide +kernel
theorem dX11_inBoth_44 : decode cX11_inBoth 44 = .ok (.iadd, 1) := by decide +kernel
theorem dX11_inBoth_45 : decode cX11_inBoth 45 = .ok (.istore_n 3, 1) := by decide +kernel
theorem dX11_inBoth_46 : decode cX11_inBoth 46 = .ok (.iinc 4 1, 3) := by decide +kernel
theorem dX11_inBoth_49 : decode cX11_inBoth 49 = .ok (.goto (-44), 3) := by decide +kernel
theorem dX11_inBoth_52 : decode cX11_inBoth 52 = .ok (.iload_n 3, 1) := by decide +kernel
theorem dX11_inBoth_53 : decode cX11_inBoth 53 = .ok (.ireturn, 1) := by decide +kernel
theorem dX11_nearest_0 : decode cX11_nearest 0 = .ok (.aload_n 0, 1) := by decide +kernel
theorem dX11_nearest_1 : decode cX11_nearest 1 = .ok (.iconst 0, 1) := by decide +kernel
theorem dX11_nearest_2 : decode cX11_nearest 2 = .ok (.putfield 117, 3) := by decide +kernel
theorem dX11_nearest_5 : decode cX11_nearest 5 = .ok (.aload_n 0, 1) := by decide +kernel
theorem dX11_nearest_6 : decode cX11_nearest 6 = .ok (.aload_n 0, 1) := by decide +kernel
theorem dX11_nearest_7 : decode cX11_nearest 7 = .ok (.iload_n 1, 1) := by decide +kernel
theorem dX11_nearest_8 : decode cX11_nearest 8 = .ok (.invokevirtual 402, 3) := by decide +kernel
theorem dX11_nearest_11 : decode cX11_nearest 11 = .ok (.ifCond .ne 7, 3) := by decide +kernel
theorem dX11_nearest_14 : decode cX11_nearest 14 = .ok (.iconst 1, 1) := by decide +kernel
theorem dX11_nearest_15 : decode cX11_nearest 15 = .ok (.goto 4, 3) := by decide +kernel
theorem dX11_nearest_18 : decode cX11_nearest 18 = .ok (.iconst 0, 1) := by decide +kernel
theorem dX11_nearest_19 : decode cX11_nearest 19 = .ok (.iconst 1, 1) := by decide +kernel
theorem dX11_nearest_20 : decode cX11_nearest 20 = .ok (.iconst 0, 1) := by decide +kernel
theorem dX11_nearest_21 : decode cX11_nearest 21 = .ok (.invokevirtual 179, 3) := by decide +kernel
theorem dX11_nearest_24 : decode cX11_nearest 24 = .ok (.ifCond .eq 5, 3) := by decide +kernel
theorem dX11_nearest_27 : decode cX11_nearest 27 = .ok (.iconst 0, 1) := by decide +kernel
theorem dX11_nearest_28 : decode cX11_nearest 28 = .ok (.ireturn, 1) := by decide +kernel
theorem dX11_nearest_29 : decode cX11_nearest 29 = .ok (.iconst (-1), 1) := by decide +kernel
theorem dX11_nearest_30 : decode cX11_nearest 30 = .ok (.istore_n 2, 1) := by decide +kernel
theorem dX11_nearest_31 : decode cX11_nearest 31 = .ok (.iconst 0, 1) := by decide +kernel
theorem dX11_nearest_32 : decode cX11_nearest 32 = .ok (.istore_n 3, 1) := by decide +kernel
theorem dX11_nearest_33 : decode cX11_nearest 33 = .ok (.iload_n 3, 1) := by decide +kernel
theorem dX11_nearest_34 : decode cX11_nearest 34 = .ok (.aload_n 0, 1) := by decide +kernel
theorem dX11_nearest_35 : decode cX11_nearest 35 = .ok (.getfield 176, 3) := by decide +kernel
theorem dX11_nearest_38 : decode cX11_nearest 38 = .ok (.if_icmp .ge 47, 3) := by decide +kernel
theorem dX11_nearest_41 : decode cX11_nearest 41 = .ok (.iload_n 3, 1) := by decide +kernel
theorem dX11_nearest_42 : decode cX11_nearest 42 = .ok (.iload_n 1, 1) := by decide +kernel
theorem dX11_nearest_43 : decode cX11_nearest 43 = .ok (.if_icmp .eq 36, 3) := by decide +kernel
theorem dX11_nearest_46 : decode cX11_nearest 46 = .ok (.aload_n 0, 1) := by decide +kernel
theorem dX11_nearest_47 : decode cX11_nearest 47 = .ok (.iload_n 3, 1) := by decide +kernel
theorem dX11_nearest_48 : decode cX11_nearest 48 = .ok (.invokevirtual 246, 3) := by decide +kernel
theorem dX11_nearest_51 : decode cX11_nearest 51 = .ok (.ifCond .ne 6, 3) := by decide +kernel
theorem dX11_nearest_54 : decode cX11_nearest 54 = .ok (.goto 25, 3) := by decide +kernel
theorem dX11_nearest_57 : decode cX11_nearest 57 = .ok (.iload_n 2, 1) := by decide +kernel
theorem dX11_nearest_58 : decode cX11_nearest 58 = .ok (.iconst (-1), 1) := by decide +kernel
theorem dX11_nearest_59 : decode cX11_nearest 59 = .ok (.if_icmp .eq 18, 3) := by decide +kernel
theorem dX11_nearest_62 : decode cX11_nearest 62 = .ok (.aload_n 0, 1) := by decide +kernel
theorem dX11_nearest_63 : decode cX11_nearest 63 = .ok (.iload_n 1, 1) := by decide +kernel
theorem dX11_nearest_64 : decode cX11_nearest 64 = .ok (.iload_n 3, 1) := by decide +kernel
theorem dX11_nearest_65 : decode cX11_nearest 65 = .ok (.invokevirtual 433, 3) := by decide +kernel
theorem dX11_nearest_68 : decode cX11_nearest 68 = .ok (.aload_n 0, 1) := by decide +kernel
theorem dX11_nearest_69 : decode cX11_nearest 69 = .ok (.iload_n 1, 1) := by decide +kernel
theorem dX11_nearest_70 : decode cX11_nearest 70 = .ok (.iload_n 2, 1) := by decide +kernel
theorem dX11_nearest_71 : decode cX11_nearest 71 = .ok (.invokevirtual 433, 3) := by decide +kernel
theorem dX11_nearest_74 : decode cX11_nearest 74 = .ok (.if_icmp .le 5, 3) := by decide +kernel
theorem dX11_nearest_77 : decode cX11_nearest 77 = .ok (.iload_n 3, 1) := by decide +kernel
theorem dX11_nearest_78 : decode cX11_nearest 78 = .ok (.istore_n 2, 1) := by decide +kernel
theorem dX11_nearest_79 : decode cX11_nearest 79 = .ok (.iinc 3 1, 3) := by decide +kernel
theorem dX11_nearest_82 : decode cX11_nearest 82 = .ok (.goto (-49), 3) := by decide +kernel
theorem dX11_nearest_85 : decode cX11_nearest 85 = .ok (.iload_n 2, 1) := by decide +kernel
theorem dX11_nearest_86 : decode cX11_nearest 86 = .ok (.ireturn, 1) := by decide +kernel
theorem dX11_rarest_0 : decode cX11_rarest 0 = .ok (.aload_n 0, 1) := by decide +kernel
theorem dX11_rarest_1 : decode cX11_rarest 1 = .ok (.iconst 0, 1) := by decide +kernel
theorem dX11_rarest_2 : decode cX11_rarest 2 = .ok (.putfield 117, 3) := by decide +kernel
theorem dX11_rarest_5 : decode cX11_rarest 5 = .ok (.aload_n 0, 1) := by decide +kernel
theorem dX11_rarest_6 : decode cX11_rarest 6 = .ok (.aload_n 0, 1) := by decide +kernel
theorem dX11_rarest_7 : decode cX11_rarest 7 = .ok (.iload_n 1, 1) := by decide +kernel
theorem dX11_rarest_8 : decode cX11_rarest 8 = .ok (.invokevirtual 402, 3) := by decide +kernel
theorem dX11_rarest_11 : decode cX11_rarest 11 = .ok (.ifCond .ne 7, 3) := by decide +kernel
theorem dX11_rarest_14 : decode cX11_rarest 14 = .ok (.iconst 1, 1) := by decide +kernel
theorem dX11_rarest_15 : decode cX11_rarest 15 = .ok (.goto 4, 3) := by decide +kernel
theorem dX11_rarest_18 : decode cX11_rarest 18 = .ok (.iconst 0, 1) := by decide +kernel
theorem dX11_rarest_19 : decode cX11_rarest 19 = .ok (.iconst 1, 1) := by decide +kernel
theorem dX11_rarest_20 : decode cX11_rarest 20 = .ok (.iconst 0, 1) := by decide +kernel
theorem dX11_rarest_21 : decode cX11_rarest 21 = .ok (.invokevirtual 179, 3) := by decide +kernel
theorem dX11_rarest_24 : decode cX11_rarest 24 = .ok (.ifCond .eq 5, 3) := by decide +kernel
theorem dX11_rarest_27 : decode cX11_rarest 27 = .ok (.iconst 0, 1) := by decide +kernel
theorem dX11_rarest_28 : decode cX11_rarest 28 = .ok (.ireturn, 1) := by decide +kernel
theorem dX11_rarest_29 : decode cX11_rarest 29 = .ok (.iconst (-1), 1) := by decide +kernel
theorem dX11_rarest_30 : decode cX11_rarest 30 = .ok (.istore_n 2, 1) := by decide +kernel
theorem dX11_rarest_31 : decode cX11_rarest 31 = .ok (.iconst 0, 1) := by decide +kernel
theorem dX11_rarest_32 : decode cX11_rarest 32 = .ok (.istore_n 3, 1) := by decide +kernel
theorem dX11_rarest_33 : decode cX11_rarest 33 = .ok (.iconst 0, 1) := by decide +kernel
theorem dX11_rarest_34 : decode cX11_rarest 34 = .ok (.istore 4, 2) := by decide +kernel
theorem dX11_rarest_36 : decode cX11_rarest 36 = .ok (.iload 4, 2) := by decide +kernel
theorem dX11_rarest_38 : decode cX11_rarest 38 = .ok (.aload_n 0, 1) := by decide +kernel
theorem dX11_rarest_39 : decode cX11_rarest 39 = .ok (.getfield 162, 3) := by decide +kernel
theorem dX11_rarest_42 : decode cX11_rarest 42 = .ok (.if_icmp .ge 79, 3) := by decide +kernel
theorem dX11_rarest_45 : decode cX11_rarest 45 = .ok (.aload_n 0, 1) := by decide +kernel
theorem dX11_rarest_46 : decode cX11_rarest 46 = .ok (.getfield 41, 3) := by decide +kernel
theorem dX11_rarest_49 : decode cX11_rarest 49 = .ok (.iload 4, 2) := by decide +kernel
theorem dX11_rarest_51 : decode cX11_rarest 51 = .ok (.aaload, 1) := by decide +kernel
theorem dX11_rarest_52 : decode cX11_rarest 52 = .ok (.iload_n 1, 1) := by decide +kernel
theorem dX11_rarest_53 : decode cX11_rarest 53 = .ok (.iaload, 1) := by decide +kernel
theorem dX11_rarest_54 : decode cX11_rarest 54 = .ok (.ifCond .ne 7, 3) := by decide +kernel
theorem dX11_rarest_57 : decode cX11_rarest 57 = .ok (.iconst 0, 1) := by decide +kernel
theorem dX11_rarest_58 : decode cX11_rarest 58 = .ok (.goto 9, 3) := by decide +kernel
theorem dX11_rarest_61 : decode cX11_rarest 61 = .ok (.aload_n 0, 1) := by decide +kernel
theorem dX11_rarest_62 : decode cX11_rarest 62 = .ok (.iload 4, 2) := by decide +kernel
theorem dX11_rarest_64 : decode cX11_rarest 64 = .ok (.invokevirtual 290, 3) := by decide +kernel
theorem dX11_rarest_67 : decode cX11_rarest 67 = .ok (.istore 5, 2) := by decide +kernel
theorem dX11_rarest_69 : decode cX11_rarest 69 = .ok (.iload 5, 2) := by decide +kernel
theorem dX11_rarest_71 : decode cX11_rarest 71 = .ok (.iload_n 3, 1) := by decide +kernel
theorem dX11_rarest_72 : decode cX11_rarest 72 = .ok (.if_icmp .lt 43, 3) := by decide +kernel
theorem dX11_rarest_75 : decode cX11_rarest 75 = .ok (.iload 5, 2) := by decide +kernel
theorem dX11_rarest_77 : decode cX11_rarest 77 = .ok (.ifCond .eq 38, 3) := by decide +kernel
theorem dX11_rarest_80 : decode cX11_rarest 80 = .ok (.iload 5, 2) := by decide +kernel
theorem dX11_rarest_82 : decode cX11_rarest 82 = .ok (.iload_n 3, 1) := by decide +kernel
theorem dX11_rarest_83 : decode cX11_rarest 83 = .ok (.if_icmp .ne 26, 3) := by decide +kernel
theorem dX11_rarest_86 : decode cX11_rarest 86 = .ok (.aload_n 0, 1) := by decide +kernel
theorem dX11_rarest_87 : decode cX11_rarest 87 = .ok (.getfield 41, 3) := by decide +kernel
theorem dX11_rarest_90 : decode cX11_rarest 90 = .ok (.iload 4, 2) := by decide +kernel
theorem dX11_rarest_92 : decode cX11_rarest 92 = .ok (.aaload, 1) := by decide +kernel
theorem dX11_rarest_93 : decode cX11_rarest 93 = .ok (.iload_n 1, 1) := by decide +kernel
theorem dX11_rarest_94 : decode cX11_rarest 94 = .ok (.iaload, 1) := by decide +kernel
theorem dX11_rarest_95 : decode cX11_rarest 95 = .ok (.aload_n 0, 1) := by decide +kernel
theorem dX11_rarest_96 : decode cX11_rarest 96 = .ok (.getfield 41, 3) := by decide +kernel
theorem dX11_rarest_99 : decode cX11_rarest 99 = .ok (.iload_n 2, 1) := by decide +kernel
theorem dX11_rarest_100 : decode cX11_rarest 100 = .ok (.aaload, 1) := by decide +kernel
theorem dX11_rarest_101 : decode cX11_rarest 101 = .ok (.iload_n 1, 1) := by decide +kernel
theorem dX11_rarest_102 : decode cX11_rarest 102 = .ok (.iaload, 1) := by decide +kernel
theorem dX11_rarest_103 : decode cX11_rarest 103 = .ok (.if_icmp .gt 6, 3) := by decide +kernel
theorem dX11_rarest_106 : decode cX11_rarest 106 = .ok (.goto 9, 3) := by decide +kernel
theorem dX11_rarest_109 : decode cX11_rarest 109 = .ok (.iload 4, 2) := by decide +kernel
theorem dX11_rarest_111 : decode cX11_rarest 111 = .ok (.istore_n 2, 1) := by decide +kernel
theorem dX11_rarest_112 : decode cX11_rarest 112 = .ok (.iload 5, 2) := by decide +kernel
theorem dX11_rarest_114 : decode cX11_rarest 114 = .ok (.istore_n 3, 1) := by decide +kernel
theorem dX11_rarest_115 : decode cX11_rarest 115 = .ok (.iinc 4 1, 3) := by decide +kernel
theorem dX11_rarest_118 : decode cX11_rarest 118 = .ok (.goto (-82), 3) := by decide +kernel
theorem dX11_rarest_121 : decode cX11_rarest 121 = .ok (.iload_n 2, 1) := by decide +kernel
theorem dX11_rarest_122 : decode cX11_rarest 122 = .ok (.ireturn, 1) := by decide +kernel
theorem dX11_points_0 : decode cX11_points 0 = .ok (.aload_n 0, 1) := by decide +kernel
theorem dX11_points_1 : decode cX11_points 1 = .ok (.iconst 0, 1) := by decide +kernel
theorem dX11_points_2 : decode cX11_points 2 = .ok (.putfield 117, 3) := by decide +kernel
theorem dX11_points_5 : decode cX11_points 5 = .ok (.aload_n 0, 1) := by decide +kernel
theorem dX11_points_6 : decode cX11_points 6 = .ok (.aload_n 0, 1) := by decide +kernel
theorem dX11_points_7 : decode cX11_points 7 = .ok (.iload_n 1, 1) := by decide +kernel
theorem dX11_points_8 : decode cX11_points 8 = .ok (.invokevirtual 402, 3) := by decide +kernel
theorem dX11_points_11 : decode cX11_points 11 = .ok (.ifCond .ne 7, 3) := by decide +kernel
theorem dX11_points_14 : decode cX11_points 14 = .ok (.iconst 1, 1) := by decide +kernel
theorem dX11_points_15 : decode cX11_points 15 = .ok (.goto 4, 3) := by decide +kernel
theorem dX11_points_18 : decode cX11_points 18 = .ok (.iconst 0, 1) := by decide +kernel
theorem dX11_points_19 : decode cX11_points 19 = .ok (.iconst 1, 1) := by decide +kernel
theorem dX11_points_20 : decode cX11_points 20 = .ok (.iconst 0, 1) := by decide +kernel
theorem dX11_points_21 : decode cX11_points 21 = .ok (.invokevirtual 179, 3) := by decide +kernel
theorem dX11_points_24 : decode cX11_points 24 = .ok (.ifCond .eq 5, 3) := by decide +kernel
theorem dX11_points_27 : decode cX11_points 27 = .ok (.iconst 0, 1) := by decide +kernel
theorem dX11_points_28 : decode cX11_points 28 = .ok (.ireturn, 1) := by decide +kernel
theorem dX11_points_29 : decode cX11_points 29 = .ok (.iload_n 2, 1) := by decide +kernel
theorem dX11_points_30 : decode cX11_points 30 = .ok (.iconst 0, 1) := by decide +kernel
theorem dX11_points_31 : decode cX11_points 31 = .ok (.aload_n 0, 1) := by decide +kernel
theorem dX11_points_32 : decode cX11_points 32 = .ok (.getfield 211, 3) := by decide +kernel
theorem dX11_points_35 : decode cX11_points 35 = .ok (.iconst 1, 1) := by decide +kernel
theorem dX11_points_36 : decode cX11_points 36 = .ok (.isub, 1) := by decide +kernel
theorem dX11_points_37 : decode cX11_points 37 = .ok (.invokestatic 172, 3) := by decide +kernel
theorem dX11_points_40 : decode cX11_points 40 = .ok (.ifCond .eq 12, 3) := by decide +kernel
theorem dX11_points_43 : decode cX11_points 43 = .ok (.aload_n 0, 1) := by decide +kernel
theorem dX11_points_44 : decode cX11_points 44 = .ok (.iload_n 2, 1) := by decide +kernel
theorem dX11_points_45 : decode cX11_points 45 = .ok (.iload_n 1, 1) := by decide +kernel
theorem dX11_points_46 : decode cX11_points 46 = .ok (.invokevirtual 296, 3) := by decide +kernel
theorem dX11_points_49 : decode cX11_points 49 = .ok (.goto 4, 3) := by decide +kernel
theorem dX11_points_52 : decode cX11_points 52 = .ok (.iconst (-1), 1) := by decide +kernel
theorem dX11_points_53 : decode cX11_points 53 = .ok (.ireturn, 1) := by decide +kernel
theorem dX11_phrase_0 : decode cX11_phrase 0 = .ok (.aload_n 0, 1) := by decide +kernel
theorem dX11_phrase_1 : decode cX11_phrase 1 = .ok (.iconst 0, 1) := by decide +kernel
theorem dX11_phrase_2 : decode cX11_phrase 2 = .ok (.putfield 117, 3) := by decide +kernel
theorem dX11_phrase_5 : decode cX11_phrase 5 = .ok (.aload_n 0, 1) := by decide +kernel
theorem dX11_phrase_6 : decode cX11_phrase 6 = .ok (.aload_n 0, 1) := by decide +kernel
theorem dX11_phrase_7 : decode cX11_phrase 7 = .ok (.iload_n 1, 1) := by decide +kernel
theorem dX11_phrase_8 : decode cX11_phrase 8 = .ok (.invokevirtual 402, 3) := by decide +kernel
theorem dX11_phrase_11 : decode cX11_phrase 11 = .ok (.ifCond .ne 7, 3) := by decide +kernel
theorem dX11_phrase_14 : decode cX11_phrase 14 = .ok (.iconst 1, 1) := by decide +kernel
theorem dX11_phrase_15 : decode cX11_phrase 15 = .ok (.goto 4, 3) := by decide +kernel
theorem dX11_phrase_18 : decode cX11_phrase 18 = .ok (.iconst 0, 1) := by decide +kernel
theorem dX11_phrase_19 : decode cX11_phrase 19 = .ok (.iconst 1, 1) := by decide +kernel
theorem dX11_phrase_20 : decode cX11_phrase 20 = .ok (.iconst 0, 1) := by decide +kernel
theorem dX11_phrase_21 : decode cX11_phrase 21 = .ok (.invokevirtual 179, 3) := by decide +kernel
theorem dX11_phrase_24 : decode cX11_phrase 24 = .ok (.ifCond .eq 5, 3) := by decide +kernel
theorem dX11_phrase_27 : decode cX11_phrase 27 = .ok (.iconst 0, 1) := by decide +kernel
theorem dX11_phrase_28 : decode cX11_phrase 28 = .ok (.ireturn, 1) := by decide +kernel
theorem dX11_phrase_29 : decode cX11_phrase 29 = .ok (.iload_n 2, 1) := by decide +kernel
theorem dX11_phrase_30 : decode cX11_phrase 30 = .ok (.iconst 0, 1) := by decide +kernel
theorem dX11_phrase_31 : decode cX11_phrase 31 = .ok (.aload_n 0, 1) := by decide +kernel
theorem dX11_phrase_32 : decode cX11_phrase 32 = .ok (.getfield 220, 3) := by decide +kernel
theorem dX11_phrase_35 : decode cX11_phrase 35 = .ok (.iconst 1, 1) := by decide +kernel
theorem dX11_phrase_36 : decode cX11_phrase 36 = .ok (.isub, 1) := by decide +kernel
theorem dX11_phrase_37 : decode cX11_phrase 37 = .ok (.invokestatic 172, 3) := by decide +kernel
theorem dX11_phrase_40 : decode cX11_phrase 40 = .ok (.ifCond .eq 12, 3) := by decide +kernel
theorem dX11_phrase_43 : decode cX11_phrase 43 = .ok (.aload_n 0, 1) := by decide +kernel
theorem dX11_phrase_44 : decode cX11_phrase 44 = .ok (.iload_n 2, 1) := by decide +kernel
theorem dX11_phrase_45 : decode cX11_phrase 45 = .ok (.iload_n 1, 1) := by decide +kernel
theorem dX11_phrase_46 : decode cX11_phrase 46 = .ok (.invokevirtual 281, 3) := by decide +kernel
theorem dX11_phrase_49 : decode cX11_phrase 49 = .ok (.goto 4, 3) := by decide +kernel
theorem dX11_phrase_52 : decode cX11_phrase 52 = .ok (.iconst (-1), 1) := by decide +kernel
theorem dX11_phrase_53 : decode cX11_phrase 53 = .ok (.ireturn, 1) := by decide +kernel
theorem dX11_depth_0 : decode cX11_depth 0 = .ok (.aload_n 0, 1) := by decide +kernel
theorem dX11_depth_1 : decode cX11_depth 1 = .ok (.iconst 0, 1) := by decide +kernel
theorem dX11_depth_2 : decode cX11_depth 2 = .ok (.putfield 117, 3) := by decide +kernel
theorem dX11_depth_5 : decode cX11_depth 5 = .ok (.iload_n 1, 1) := by decide +kernel
theorem dX11_depth_6 : decode cX11_depth 6 = .ok (.iconst 0, 1) := by decide +kernel
theorem dX11_depth_7 : decode cX11_depth 7 = .ok (.aload_n 0, 1) := by decide +kernel
theorem dX11_depth_8 : decode cX11_depth 8 = .ok (.getfield 211, 3) := by decide +kernel
theorem dX11_depth_11 : decode cX11_depth 11 = .ok (.iconst 1, 1) := by decide +kernel
theorem dX11_depth_12 : decode cX11_depth 12 = .ok (.isub, 1) := by decide +kernel
theorem dX11_depth_13 : decode cX11_depth 13 = .ok (.invokestatic 172, 3) := by decide +kernel
theorem dX11_depth_16 : decode cX11_depth 16 = .ok (.ifCond .eq 26, 3) := by decide +kernel
theorem dX11_depth_19 : decode cX11_depth 19 = .ok (.aload_n 0, 1) := by decide +kernel
theorem dX11_depth_20 : decode cX11_depth 20 = .ok (.aload_n 0, 1) := by decide +kernel
theorem dX11_depth_21 : decode cX11_depth 21 = .ok (.getfield 44, 3) := by decide +kernel
theorem dX11_depth_24 : decode cX11_depth 24 = .ok (.iload_n 1, 1) := by decide +kernel
theorem dX11_depth_25 : decode cX11_depth 25 = .ok (.bipush 23, 2) := by decide +kernel
theorem dX11_depth_27 : decode cX11_depth 27 = .ok (.invokestatic 236, 3) := by decide +kernel
theorem dX11_depth_30 : decode cX11_depth 30 = .ok (.iaload, 1) := by decide +kernel
theorem dX11_depth_31 : decode cX11_depth 31 = .ok (.iload_n 2, 1) := by decide +kernel
theorem dX11_depth_32 : decode cX11_depth 32 = .ok (.invokevirtual 423, 3) := by decide +kernel
theorem dX11_depth_35 : decode cX11_depth 35 = .ok (.ifCond .eq 7, 3) := by decide +kernel
theorem dX11_depth_38 : decode cX11_depth 38 = .ok (.iconst 1, 1) := by decide +kernel
theorem dX11_depth_39 : decode cX11_depth 39 = .ok (.goto 4, 3) := by decide +kernel
theorem dX11_depth_42 : decode cX11_depth 42 = .ok (.iconst 0, 1) := by decide +kernel
theorem dX11_depth_43 : decode cX11_depth 43 = .ok (.istore_n 3, 1) := by decide +kernel
theorem dX11_depth_44 : decode cX11_depth 44 = .ok (.aload_n 0, 1) := by decide +kernel
theorem dX11_depth_45 : decode cX11_depth 45 = .ok (.iload_n 3, 1) := by decide +kernel
theorem dX11_depth_46 : decode cX11_depth 46 = .ok (.ifCond .ne 7, 3) := by decide +kernel
theorem dX11_depth_49 : decode cX11_depth 49 = .ok (.iconst 1, 1) := by decide +kernel
theorem dX11_depth_50 : decode cX11_depth 50 = .ok (.goto 4, 3) := by decide +kernel
theorem dX11_depth_53 : decode cX11_depth 53 = .ok (.iconst 0, 1) := by decide +kernel
theorem dX11_depth_54 : decode cX11_depth 54 = .ok (.iconst 1, 1) := by decide +kernel
theorem dX11_depth_55 : decode cX11_depth 55 = .ok (.iconst 0, 1) := by decide +kernel
theorem dX11_depth_56 : decode cX11_depth 56 = .ok (.invokevirtual 179, 3) := by decide +kernel
theorem dX11_depth_59 : decode cX11_depth 59 = .ok (.ifCond .eq 5, 3) := by decide +kernel
theorem dX11_depth_62 : decode cX11_depth 62 = .ok (.iconst 0, 1) := by decide +kernel
theorem dX11_depth_63 : decode cX11_depth 63 = .ok (.ireturn, 1) := by decide +kernel
theorem dX11_depth_64 : decode cX11_depth 64 = .ok (.iconst 1, 1) := by decide +kernel
theorem dX11_depth_65 : decode cX11_depth 65 = .ok (.istore 4, 2) := by decide +kernel
theorem dX11_depth_67 : decode cX11_depth 67 = .ok (.iload 4, 2) := by decide +kernel
theorem dX11_depth_69 : decode cX11_depth 69 = .ok (.bipush 10, 2) := by decide +kernel
theorem dX11_depth_71 : decode cX11_depth 71 = .ok (.if_icmp .gt 33, 3) := by decide +kernel
theorem dX11_depth_74 : decode cX11_depth 74 = .ok (.aload_n 0, 1) := by decide +kernel
theorem dX11_depth_75 : decode cX11_depth 75 = .ok (.iload 4, 2) := by decide +kernel
theorem dX11_depth_77 : decode cX11_depth 77 = .ok (.aload_n 0, 1) := by decide +kernel
theorem dX11_depth_78 : decode cX11_depth 78 = .ok (.getfield 20, 3) := by decide +kernel
theorem dX11_depth_81 : decode cX11_depth 81 = .ok (.invokevirtual 445, 3) := by decide +kernel
theorem dX11_depth_84 : decode cX11_depth 84 = .ok (.aload_n 0, 1) := by decide +kernel
theorem dX11_depth_85 : decode cX11_depth 85 = .ok (.getfield 83, 3) := by decide +kernel
theorem dX11_depth_88 : decode cX11_depth 88 = .ok (.iload_n 1, 1) := by decide +kernel
theorem dX11_depth_89 : decode cX11_depth 89 = .ok (.aaload, 1) := by decide +kernel
theorem dX11_depth_90 : decode cX11_depth 90 = .ok (.iload_n 2, 1) := by decide +kernel
theorem dX11_depth_91 : decode cX11_depth 91 = .ok (.iaload, 1) := by decide +kernel
theorem dX11_depth_92 : decode cX11_depth 92 = .ok (.ifCond .le 6, 3) := by decide +kernel
theorem dX11_depth_95 : decode cX11_depth 95 = .ok (.iload 4, 2) := by decide +kernel
theorem dX11_depth_97 : decode cX11_depth 97 = .ok (.ireturn, 1) := by decide +kernel
theorem dX11_depth_98 : decode cX11_depth 98 = .ok (.iinc 4 1, 3) := by decide +kernel
theorem dX11_depth_101 : decode cX11_depth 101 = .ok (.goto (-34), 3) := by decide +kernel
theorem dX11_depth_104 : decode cX11_depth 104 = .ok (.iconst (-1), 1) := by decide +kernel
theorem dX11_depth_105 : decode cX11_depth 105 = .ok (.ireturn, 1) := by decide +kernel
theorem dX11_without_0 : decode cX11_without 0 = .ok (.aload_n 0, 1) := by decide +kernel
theorem dX11_without_1 : decode cX11_without 1 = .ok (.iconst 0, 1) := by decide +kernel
theorem dX11_without_2 : decode cX11_without 2 = .ok (.putfield 117, 3) := by decide +kernel
theorem dX11_without_5 : decode cX11_without 5 = .ok (.aload_n 0, 1) := by decide +kernel
theorem dX11_without_6 : decode cX11_without 6 = .ok (.iload_n 1, 1) := by decide +kernel
theorem dX11_without_7 : decode cX11_without 7 = .ok (.iconst 1, 1) := by decide +kernel
theorem dX11_without_8 : decode cX11_without 8 = .ok (.bipush 10, 2) := by decide +kernel
theorem dX11_without_10 : decode cX11_without 10 = .ok (.invokestatic 172, 3) := by decide +kernel
theorem dX11_without_13 : decode cX11_without 13 = .ok (.ifCond .ne 7, 3) := by decide +kernel
theorem dX11_without_16 : decode cX11_without 16 = .ok (.iconst 1, 1) := by decide +kernel
theorem dX11_without_17 : decode cX11_without 17 = .ok (.goto 4, 3) := by decide +kernel
theorem dX11_without_20 : decode cX11_without 20 = .ok (.iconst 0, 1) := by decide +kernel
theorem dX11_without_21 : decode cX11_without 21 = .ok (.iconst 1, 1) := by decide +kernel
theorem dX11_without_22 : decode cX11_without 22 = .ok (.iconst 1, 1) := by decide +kernel
theorem dX11_without_23 : decode cX11_without 23 = .ok (.invokevirtual 179, 3) := by decide +kernel
theorem dX11_without_26 : decode cX11_without 26 = .ok (.ifCond .eq 5, 3) := by decide +kernel
theorem dX11_without_29 : decode cX11_without 29 = .ok (.iconst 0, 1) := by decide +kernel
theorem dX11_without_30 : decode cX11_without 30 = .ok (.ireturn, 1) := by decide +kernel
theorem dX11_without_31 : decode cX11_without 31 = .ok (.iload_n 2, 1) := by decide +kernel
theorem dX11_without_32 : decode cX11_without 32 = .ok (.iconst 0, 1) := by decide +kernel
theorem dX11_without_33 : decode cX11_without 33 = .ok (.aload_n 0, 1) := by decide +kernel
theorem dX11_without_34 : decode cX11_without 34 = .ok (.getfield 211, 3) := by decide +kernel
theorem dX11_without_37 : decode cX11_without 37 = .ok (.iconst 1, 1) := by decide +kernel
theorem dX11_without_38 : decode cX11_without 38 = .ok (.isub, 1) := by decide +kernel
theorem dX11_without_39 : decode cX11_without 39 = .ok (.invokestatic 172, 3) := by decide +kernel
theorem dX11_without_42 : decode cX11_without 42 = .ok (.ifCond .ne 5, 3) := by decide +kernel
theorem dX11_without_45 : decode cX11_without 45 = .ok (.iconst (-1), 1) := by decide +kernel
theorem dX11_without_46 : decode cX11_without 46 = .ok (.ireturn, 1) := by decide +kernel
theorem dX11_without_47 : decode cX11_without 47 = .ok (.aload_n 0, 1) := by decide +kernel
theorem dX11_without_48 : decode cX11_without 48 = .ok (.invokevirtual 442, 3) := by decide +kernel
theorem dX11_without_51 : decode cX11_without 51 = .ok (.iload_n 1, 1) := by decide +kernel
theorem dX11_without_52 : decode cX11_without 52 = .ok (.aload_n 0, 1) := by decide +kernel
theorem dX11_without_53 : decode cX11_without 53 = .ok (.getfield 299, 3) := by decide +kernel
theorem dX11_without_56 : decode cX11_without 56 = .ok (.invokestatic 236, 3) := by decide +kernel
theorem dX11_without_59 : decode cX11_without 59 = .ok (.istore_n 3, 1) := by decide +kernel
theorem dX11_without_60 : decode cX11_without 60 = .ok (.iconst 0, 1) := by decide +kernel
theorem dX11_without_61 : decode cX11_without 61 = .ok (.istore 4, 2) := by decide +kernel
theorem dX11_without_63 : decode cX11_without 63 = .ok (.iconst 0, 1) := by decide +kernel
theorem dX11_without_64 : decode cX11_without 64 = .ok (.istore 5, 2) := by decide +kernel
theorem dX11_without_66 : decode cX11_without 66 = .ok (.iload 5, 2) := by decide +kernel
theorem dX11_without_68 : decode cX11_without 68 = .ok (.iload_n 3, 1) := by decide +kernel
theorem dX11_without_69 : decode cX11_without 69 = .ok (.if_icmp .ge 23, 3) := by decide +kernel
theorem dX11_without_72 : decode cX11_without 72 = .ok (.aload_n 0, 1) := by decide +kernel
theorem dX11_without_73 : decode cX11_without 73 = .ok (.getfield 111, 3) := by decide +kernel
theorem dX11_without_76 : decode cX11_without 76 = .ok (.iload 5, 2) := by decide +kernel
theorem dX11_without_78 : decode cX11_without 78 = .ok (.aload_n 0, 1) := by decide +kernel
theorem dX11_without_79 : decode cX11_without 79 = .ok (.getfield 71, 3) := by decide +kernel
theorem dX11_without_82 : decode cX11_without 82 = .ok (.iload 5, 2) := by decide +kernel
theorem dX11_without_84 : decode cX11_without 84 = .ok (.iaload, 1) := by decide +kernel
theorem dX11_without_85 : decode cX11_without 85 = .ok (.iastore, 1) := by decide +kernel
theorem dX11_without_86 : decode cX11_without 86 = .ok (.iinc 5 1, 3) := by decide +kernel
theorem dX11_without_89 : decode cX11_without 89 = .ok (.goto (-23), 3) := by decide +kernel
theorem dX11_without_92 : decode cX11_without 92 = .ok (.aload_n 0, 1) := by decide +kernel
theorem dX11_without_93 : decode cX11_without 93 = .ok (.iload_n 2, 1) := by decide +kernel
theorem dX11_without_94 : decode cX11_without 94 = .ok (.putfield 68, 3) := by decide +kernel
theorem dX11_without_97 : decode cX11_without 97 = .ok (.aload_n 0, 1) := by decide +kernel
theorem dX11_without_98 : decode cX11_without 98 = .ok (.invokevirtual 442, 3) := by decide +kernel
theorem dX11_without_101 : decode cX11_without 101 = .ok (.aload_n 0, 1) := by decide +kernel
theorem dX11_without_102 : decode cX11_without 102 = .ok (.iconst (-1), 1) := by decide +kernel
theorem dX11_without_103 : decode cX11_without 103 = .ok (.putfield 68, 3) := by decide +kernel
theorem dX11_without_106 : decode cX11_without 106 = .ok (.iconst 0, 1) := by decide +kernel
theorem dX11_without_107 : decode cX11_without 107 = .ok (.istore 5, 2) := by decide +kernel
theorem dX11_without_109 : decode cX11_without 109 = .ok (.iload 5, 2) := by decide +kernel
theorem dX11_without_111 : decode cX11_without 111 = .ok (.iload_n 3, 1) := by decide +kernel
theorem dX11_without_112 : decode cX11_without 112 = .ok (.if_icmp .ge 76, 3) := by decide +kernel
theorem dX11_without_115 : decode cX11_without 115 = .ok (.iconst 0, 1) := by decide +kernel
theorem dX11_without_116 : decode cX11_without 116 = .ok (.istore 6, 2) := by decide +kernel
theorem dX11_without_118 : decode cX11_without 118 = .ok (.iconst 0, 1) := by decide +kernel
theorem dX11_without_119 : decode cX11_without 119 = .ok (.istore 7, 2) := by decide +kernel
theorem dX11_without_121 : decode cX11_without 121 = .ok (.iload 7, 2) := by decide +kernel
theorem dX11_without_123 : decode cX11_without 123 = .ok (.iload_n 1, 1) := by decide +kernel
theorem dX11_without_124 : decode cX11_without 124 = .ok (.aload_n 0, 1) := by decide +kernel
theorem dX11_without_125 : decode cX11_without 125 = .ok (.getfield 299, 3) := by decide +kernel
theorem dX11_without_128 : decode cX11_without 128 = .ok (.invokestatic 236, 3) := by decide +kernel
theorem dX11_without_131 : decode cX11_without 131 = .ok (.if_icmp .ge 36, 3) := by decide +kernel
theorem dX11_without_134 : decode cX11_without 134 = .ok (.iload 6, 2) := by decide +kernel
theorem dX11_without_136 : decode cX11_without 136 = .ok (.aload_n 0, 1) := by decide +kernel
theorem dX11_without_137 : decode cX11_without 137 = .ok (.getfield 71, 3) := by decide +kernel
theorem dX11_without_140 : decode cX11_without 140 = .ok (.iload 7, 2) := by decide +kernel
theorem dX11_without_142 : decode cX11_without 142 = .ok (.iaload, 1) := by decide +kernel
theorem dX11_without_143 : decode cX11_without 143 = .ok (.aload_n 0, 1) := by decide +kernel
theorem dX11_without_144 : decode cX11_without 144 = .ok (.getfield 111, 3) := by decide +kernel
theorem dX11_without_147 : decode cX11_without 147 = .ok (.iload 5, 2) := by decide +kernel
theorem dX11_without_149 : decode cX11_without 149 = .ok (.iaload, 1) := by decide +kernel
theorem dX11_without_150 : decode cX11_without 150 = .ok (.if_icmp .ne 7, 3) := by decide +kernel
theorem dX11_without_153 : decode cX11_without 153 = .ok (.iconst 1, 1) := by decide +kernel
theorem dX11_without_154 : decode cX11_without 154 = .ok (.goto 4, 3) := by decide +kernel
theorem dX11_without_157 : decode cX11_without 157 = .ok (.iconst 0, 1) := by decide +kernel
theorem dX11_without_158 : decode cX11_without 158 = .ok (.ior, 1) := by decide +kernel
theorem dX11_without_159 : decode cX11_without 159 = .ok (.istore 6, 2) := by decide +kernel
theorem dX11_without_161 : decode cX11_without 161 = .ok (.iinc 7 1, 3) := by decide +kernel
theorem dX11_without_164 : decode cX11_without 164 = .ok (.goto (-43), 3) := by decide +kernel
theorem dX11_without_167 : decode cX11_without 167 = .ok (.iload 4, 2) := by decide +kernel
theorem dX11_without_169 : decode cX11_without 169 = .ok (.iload 6, 2) := by decide +kernel
theorem dX11_without_171 : decode cX11_without 171 = .ok (.ifCond .eq 7, 3) := by decide +kernel
theorem dX11_without_174 : decode cX11_without 174 = .ok (.iconst 0, 1) := by decide +kernel
theorem dX11_without_175 : decode cX11_without 175 = .ok (.goto 4, 3) := by decide +kernel
theorem dX11_without_178 : decode cX11_without 178 = .ok (.iconst 1, 1) := by decide +kernel
theorem dX11_without_179 : decode cX11_without 179 = .ok (.iadd, 1) := by decide +kernel
theorem dX11_without_180 : decode cX11_without 180 = .ok (.istore 4, 2) := by decide +kernel
theorem dX11_without_182 : decode cX11_without 182 = .ok (.iinc 5 1, 3) := by decide +kernel
theorem dX11_without_185 : decode cX11_without 185 = .ok (.goto (-76), 3) := by decide +kernel
theorem dX11_without_188 : decode cX11_without 188 = .ok (.iload 4, 2) := by decide +kernel
theorem dX11_without_190 : decode cX11_without 190 = .ok (.ireturn, 1) := by decide +kernel
theorem dX11_status_0 : decode cX11_status 0 = .ok (.aload_n 0, 1) := by decide +kernel
theorem dX11_status_1 : decode cX11_status 1 = .ok (.iconst 0, 1) := by decide +kernel
theorem dX11_status_2 : decode cX11_status 2 = .ok (.putfield 117, 3) := by decide +kernel
theorem dX11_status_5 : decode cX11_status 5 = .ok (.iload_n 1, 1) := by decide +kernel
theorem dX11_status_6 : decode cX11_status 6 = .ok (.iconst 0, 1) := by decide +kernel
theorem dX11_status_7 : decode cX11_status 7 = .ok (.iconst 1, 1) := by decide +kernel
theorem dX11_status_8 : decode cX11_status 8 = .ok (.invokestatic 172, 3) := by decide +kernel
theorem dX11_status_11 : decode cX11_status 11 = .ok (.ifCond .eq 12, 3) := by decide +kernel
theorem dX11_status_14 : decode cX11_status 14 = .ok (.aload_n 0, 1) := by decide +kernel
theorem dX11_status_15 : decode cX11_status 15 = .ok (.getfield 7, 3) := by decide +kernel
theorem dX11_status_18 : decode cX11_status 18 = .ok (.iload_n 1, 1) := by decide +kernel
theorem dX11_status_19 : decode cX11_status 19 = .ok (.iaload, 1) := by decide +kernel
theorem dX11_status_20 : decode cX11_status 20 = .ok (.goto 4, 3) := by decide +kernel
theorem dX11_status_23 : decode cX11_status 23 = .ok (.iconst (-1), 1) := by decide +kernel
theorem dX11_status_24 : decode cX11_status 24 = .ok (.ireturn, 1) := by decide +kernel
theorem dJ9_abs_0f7a4_0 : decode cJ9_abs_0f7a4 0 = .ok (.iload_n 0, 1) := by decide +kernel
theorem dJ9_abs_0f7a4_1 : decode cJ9_abs_0f7a4 1 = .ok (.ifCond .ge 8, 3) := by decide +kernel
theorem dJ9_abs_0f7a4_4 : decode cJ9_abs_0f7a4 4 = .ok (.iload_n 0, 1) := by decide +kernel
theorem dJ9_abs_0f7a4_5 : decode cJ9_abs_0f7a4 5 = .ok (.ineg, 1) := by decide +kernel
theorem dJ9_abs_0f7a4_6 : decode cJ9_abs_0f7a4 6 = .ok (.goto 4, 3) := by decide +kernel
theorem dJ9_abs_0f7a4_9 : decode cJ9_abs_0f7a4 9 = .ok (.iload_n 0, 1) := by decide +kernel
theorem dJ9_abs_0f7a4_10 : decode cJ9_abs_0f7a4 10 = .ok (.ireturn, 1) := by decide +kernel
theorem dJ9_max_7cf53_0 : decode cJ9_max_7cf53 0 = .ok (.iload_n 0, 1) := by decide +kernel
theorem dJ9_max_7cf53_1 : decode cJ9_max_7cf53 1 = .ok (.iload_n 1, 1) := by decide +kernel
theorem dJ9_max_7cf53_2 : decode cJ9_max_7cf53 2 = .ok (.if_icmp .lt 7, 3) := by decide +kernel
theorem dJ9_max_7cf53_5 : decode cJ9_max_7cf53 5 = .ok (.iload_n 0, 1) := by decide +kernel
theorem dJ9_max_7cf53_6 : decode cJ9_max_7cf53 6 = .ok (.goto 4, 3) := by decide +kernel
theorem dJ9_max_7cf53_9 : decode cJ9_max_7cf53 9 = .ok (.iload_n 1, 1) := by decide +kernel
theorem dJ9_max_7cf53_10 : decode cJ9_max_7cf53 10 = .ok (.ireturn, 1) := by decide +kernel
theorem dJ9_min_7cf53_0 : decode cJ9_min_7cf53 0 = .ok (.iload_n 0, 1) := by decide +kernel
theorem dJ9_min_7cf53_1 : decode cJ9_min_7cf53 1 = .ok (.iload_n 1, 1) := by decide +kernel
theorem dJ9_min_7cf53_2 : decode cJ9_min_7cf53 2 = .ok (.if_icmp .gt 7, 3) := by decide +kernel
theorem dJ9_min_7cf53_5 : decode cJ9_min_7cf53 5 = .ok (.iload_n 0, 1) := by decide +kernel
theorem dJ9_min_7cf53_6 : decode cJ9_min_7cf53 6 = .ok (.goto 4, 3) := by decide +kernel
theorem dJ9_min_7cf53_9 : decode cJ9_min_7cf53 9 = .ok (.iload_n 1, 1) := by decide +kernel
theorem dJ9_min_7cf53_10 : decode cJ9_min_7cf53 10 = .ok (.ireturn, 1) := by decide +kernel
theorem dL_add_0 : decode cL_add 0 = .ok (.aload_n 2, 1) := by decide +kernel
theorem dL_add_1 : decode cL_add 1 = .ok (.iconst 0, 1) := by decide +kernel
theorem dL_add_2 : decode cL_add 2 = .ok (.aload_n 0, 1) := by decide +kernel
theorem dL_add_3 : decode cL_add 3 = .ok (.iload_n 1, 1) := by decide +kernel
theorem dL_add_4 : decode cL_add 4 = .ok (.invokevirtual 7, 3) := by decide +kernel
theorem dL_add_7 : decode cL_add 7 = .ok (.i2l, 1) := by decide +kernel
theorem dL_add_8 : decode cL_add 8 = .ok (.lastore, 1) := by decide +kernel
theorem dL_add_9 : decode cL_add 9 = .ok (.goto 6, 3) := by decide +kernel
theorem dL_add_12 : decode cL_add 12 = .ok (.astore_n 3, 1) := by decide +kernel
theorem dL_add_13 : decode cL_add 13 = .ok (.iconst 1, 1) := by decide +kernel
theorem dL_add_14 : decode cL_add 14 = .ok (.ireturn, 1) := by decide +kernel
theorem dL_add_15 : decode cL_add 15 = .ok (.iconst 0, 1) := by decide +kernel
theorem dL_add_16 : decode cL_add 16 = .ok (.ireturn, 1) := by decide +kernel
theorem dL_ask_0 : decode cL_ask 0 = .ok (.aload_n 2, 1) := by decide +kernel
theorem dL_ask_1 : decode cL_ask 1 = .ok (.iconst 0, 1) := by decide +kernel
theorem dL_ask_2 : decode cL_ask 2 = .ok (.aload_n 0, 1) := by decide +kernel
theorem dL_ask_3 : decode cL_ask 3 = .ok (.iload_n 1, 1) := by decide +kernel
theorem dL_ask_4 : decode cL_ask 4 = .ok (.invokevirtual 15, 3) := by decide +kernel
theorem dL_ask_7 : decode cL_ask 7 = .ok (.i2l, 1) := by decide +kernel
theorem dL_ask_8 : decode cL_ask 8 = .ok (.lastore, 1) := by decide +kernel
theorem dL_ask_9 : decode cL_ask 9 = .ok (.goto 6, 3) := by decide +kernel
theorem dL_ask_12 : decode cL_ask 12 = .ok (.astore_n 3, 1) := by decide +kernel
theorem dL_ask_13 : decode cL_ask 13 = .ok (.iconst 1, 1) := by decide +kernel
theorem dL_ask_14 : decode cL_ask 14 = .ok (.ireturn, 1) := by decide +kernel
theorem dL_ask_15 : decode cL_ask 15 = .ok (.iconst 0, 1) := by decide +kernel
theorem dL_ask_16 : decode cL_ask 16 = .ok (.ireturn, 1) := by decide +kernel
theorem dL_find_0 : decode cL_find 0 = .ok (.aload_n 2, 1) := by decide +kernel
theorem dL_find_1 : decode cL_find 1 = .ok (.iconst 0, 1) := by decide +kernel
theorem dL_find_2 : decode cL_find 2 = .ok (.aload_n 0, 1) := by decide +kernel
theorem dL_find_3 : decode cL_find 3 = .ok (.iload_n 1, 1) := by decide +kernel
theorem dL_find_4 : decode cL_find 4 = .ok (.invokevirtual 18, 3) := by decide +kernel
theorem dL_find_7 : decode cL_find 7 = .ok (.i2l, 1) := by decide +kernel
theorem dL_find_8 : decode cL_find 8 = .ok (.lastore, 1) := by decide +kernel
theorem dL_find_9 : decode cL_find 9 = .ok (.goto 6, 3) := by decide +kernel
theorem dL_find_12 : decode cL_find 12 = .ok (.astore_n 3, 1) := by decide +kernel
theorem dL_find_13 : decode cL_find 13 = .ok (.iconst 1, 1) := by decide +kernel
theorem dL_find_14 : decode cL_find 14 = .ok (.ireturn, 1) := by decide +kernel
theorem dL_find_15 : decode cL_find 15 = .ok (.iconst 0, 1) := by decide +kernel
theorem dL_find_16 : decode cL_find 16 = .ok (.ireturn, 1) := by decide +kernel
theorem dL_remove_0 : decode cL_remove 0 = .ok (.aload_n 2, 1) := by decide +kernel
theorem dL_remove_1 : decode cL_remove 1 = .ok (.iconst 0, 1) := by decide +kernel
theorem dL_remove_2 : decode cL_remove 2 = .ok (.aload_n 0, 1) := by decide +kernel
theorem dL_remove_3 : decode cL_remove 3 = .ok (.iload_n 1, 1) := by decide +kernel
theorem dL_remove_4 : decode cL_remove 4 = .ok (.invokevirtual 21, 3) := by decide +kernel
theorem dL_remove_7 : decode cL_remove 7 = .ok (.i2l, 1) := by decide +kernel
theorem dL_remove_8 : decode cL_remove 8 = .ok (.lastore, 1) := by decide +kernel
theorem dL_remove_9 : decode cL_remove 9 = .ok (.goto 6, 3) := by decide +kernel
theorem dL_remove_12 : decode cL_remove 12 = .ok (.astore_n 3, 1) := by decide +kernel
theorem dL_remove_13 : decode cL_remove 13 = .ok (.iconst 1, 1) := by decide +kernel
theorem dL_remove_14 : decode cL_remove 14 = .ok (.ireturn, 1) := by decide +kernel
theorem dL_remove_15 : decode cL_remove 15 = .ok (.iconst 0, 1) := by decide +kernel
theorem dL_remove_16 : decode cL_remove 16 = .ok (.ireturn, 1) := by decide +kernel
theorem dL_repack_0 : decode cL_repack 0 = .ok (.aload_n 2, 1) := by decide +kernel
theorem dL_repack_1 : decode cL_repack 1 = .ok (.iconst 0, 1) := by decide +kernel
theorem dL_repack_2 : decode cL_repack 2 = .ok (.aload_n 0, 1) := by decide +kernel
theorem dL_repack_3 : decode cL_repack 3 = .ok (.iload_n 1, 1) := by decide +kernel
theorem dL_repack_4 : decode cL_repack 4 = .ok (.invokevirtual 26, 3) := by decide +kernel
theorem dL_repack_7 : decode cL_repack 7 = .ok (.i2l, 1) := by decide +kernel
theorem dL_repack_8 : decode cL_repack 8 = .ok (.lastore, 1) := by decide +kernel
theorem dL_repack_9 : decode cL_repack 9 = .ok (.goto 6, 3) := by decide +kernel
theorem dL_repack_12 : decode cL_repack 12 = .ok (.astore_n 3, 1) := by decide +kernel
theorem dL_repack_13 : decode cL_repack 13 = .ok (.iconst 1, 1) := by decide +kernel
theorem dL_repack_14 : decode cL_repack 14 = .ok (.ireturn, 1) := by decide +kernel
theorem dL_repack_15 : decode cL_repack 15 = .ok (.iconst 0, 1) := by decide +kernel
theorem dL_repack_16 : decode cL_repack 16 = .ok (.ireturn, 1) := by decide +kernel
theorem dL_told_0 : decode cL_told 0 = .ok (.aload_n 2, 1) := by decide +kernel
theorem dL_told_1 : decode cL_told 1 = .ok (.iconst 0, 1) := by decide +kernel
theorem dL_told_2 : decode cL_told 2 = .ok (.aload_n 0, 1) := by decide +kernel
theorem dL_told_3 : decode cL_told 3 = .ok (.iload_n 1, 1) := by decide +kernel
theorem dL_told_4 : decode cL_told 4 = .ok (.invokevirtual 29, 3) := by decide +kernel
theorem dL_told_7 : decode cL_told 7 = .ok (.i2l, 1) := by decide +kernel
theorem dL_told_8 : decode cL_told 8 = .ok (.lastore, 1) := by decide +kernel
theorem dL_told_9 : decode cL_told 9 = .ok (.goto 6, 3) := by decide +kernel
theorem dL_told_12 : decode cL_told 12 = .ok (.astore_n 3, 1) := by decide +kernel
theorem dL_told_13 : decode cL_told 13 = .ok (.iconst 1, 1) := by decide +kernel
theorem dL_told_14 : decode cL_told 14 = .ok (.ireturn, 1) := by decide +kernel
theorem dL_told_15 : decode cL_told 15 = .ok (.iconst 0, 1) := by decide +kernel
theorem dL_told_16 : decode cL_told 16 = .ok (.ireturn, 1) := by decide +kernel
theorem dL_document_0 : decode cL_document 0 = .ok (.aload_n 3, 1) := by decide +kernel
theorem dL_document_1 : decode cL_document 1 = .ok (.iconst 0, 1) := by decide +kernel
theorem dL_document_2 : decode cL_document 2 = .ok (.aload_n 0, 1) := by decide +kernel
theorem dL_document_3 : decode cL_document 3 = .ok (.iload_n 1, 1) := by decide +kernel
theorem dL_document_4 : decode cL_document 4 = .ok (.iload_n 2, 1) := by decide +kernel
theorem dL_document_5 : decode cL_document 5 = .ok (.invokevirtual 32, 3) := by decide +kernel
theorem dL_document_8 : decode cL_document 8 = .ok (.i2l, 1) := by decide +kernel
theorem dL_document_9 : decode cL_document 9 = .ok (.lastore, 1) := by decide +kernel
theorem dL_document_10 : decode cL_document 10 = .ok (.goto 11, 3) := by decide +kernel
theorem dL_document_13 : decode cL_document 13 = .ok (.astore 4, 2) := by decide +kernel
theorem dL_document_15 : decode cL_document 15 = .ok (.iconst 1, 1) := by decide +kernel
theorem dL_document_16 : decode cL_document 16 = .ok (.ireturn, 1) := by decide +kernel
theorem dL_document_17 : decode cL_document 17 = .ok (.astore 4, 2) := by decide +kernel
theorem dL_document_19 : decode cL_document 19 = .ok (.iconst 2, 1) := by decide +kernel
theorem dL_document_20 : decode cL_document 20 = .ok (.ireturn, 1) := by decide +kernel
theorem dL_document_21 : decode cL_document 21 = .ok (.iconst 0, 1) := by decide +kernel
theorem dL_document_22 : decode cL_document 22 = .ok (.ireturn, 1) := by decide +kernel
theorem dL_at_0 : decode cL_at 0 = .ok (.aload_n 3, 1) := by decide +kernel
theorem dL_at_1 : decode cL_at 1 = .ok (.iconst 0, 1) := by decide +kernel
theorem dL_at_2 : decode cL_at 2 = .ok (.aload_n 0, 1) := by decide +kernel
theorem dL_at_3 : decode cL_at 3 = .ok (.iload_n 1, 1) := by decide +kernel
theorem dL_at_4 : decode cL_at 4 = .ok (.iload_n 2, 1) := by decide +kernel
theorem dL_at_5 : decode cL_at 5 = .ok (.invokevirtual 36, 3) := by decide +kernel
theorem dL_at_8 : decode cL_at 8 = .ok (.i2l, 1) := by decide +kernel
theorem dL_at_9 : decode cL_at 9 = .ok (.lastore, 1) := by decide +kernel
theorem dL_at_10 : decode cL_at 10 = .ok (.goto 7, 3) := by decide +kernel
theorem dL_at_13 : decode cL_at 13 = .ok (.astore 4, 2) := by decide +kernel
theorem dL_at_15 : decode cL_at 15 = .ok (.iconst 1, 1) := by decide +kernel
theorem dL_at_16 : decode cL_at 16 = .ok (.ireturn, 1) := by decide +kernel
theorem dL_at_17 : decode cL_at 17 = .ok (.iconst 0, 1) := by decide +kernel
theorem dL_at_18 : decode cL_at 18 = .ok (.ireturn, 1) := by decide +kernel
theorem dL_word_0 : decode cL_word 0 = .ok (.aload_n 3, 1) := by decide +kernel
theorem dL_word_1 : decode cL_word 1 = .ok (.iconst 0, 1) := by decide +kernel
theorem dL_word_2 : decode cL_word 2 = .ok (.aload_n 0, 1) := by decide +kernel
theorem dL_word_3 : decode cL_word 3 = .ok (.iload_n 1, 1) := by decide +kernel
theorem dL_word_4 : decode cL_word 4 = .ok (.iload_n 2, 1) := by decide +kernel
theorem dL_word_5 : decode cL_word 5 = .ok (.invokevirtual 39, 3) := by decide +kernel
theorem dL_word_8 : decode cL_word 8 = .ok (.i2l, 1) := by decide +kernel
theorem dL_word_9 : decode cL_word 9 = .ok (.lastore, 1) := by decide +kernel
theorem dL_word_10 : decode cL_word 10 = .ok (.goto 11, 3) := by decide +kernel
theorem dL_word_13 : decode cL_word 13 = .ok (.astore 4, 2) := by decide +kernel
theorem dL_word_15 : decode cL_word 15 = .ok (.iconst 1, 1) := by decide +kernel
theorem dL_word_16 : decode cL_word 16 = .ok (.ireturn, 1) := by decide +kernel
theorem dL_word_17 : decode cL_word 17 = .ok (.astore 4, 2) := by decide +kernel
theorem dL_word_19 : decode cL_word 19 = .ok (.iconst 2, 1) := by decide +kernel
theorem dL_word_20 : decode cL_word 20 = .ok (.ireturn, 1) := by decide +kernel
theorem dL_word_21 : decode cL_word 21 = .ok (.iconst 0, 1) := by decide +kernel
theorem dL_word_22 : decode cL_word 22 = .ok (.ireturn, 1) := by decide +kernel
theorem dL_letter_0 : decode cL_letter 0 = .ok (.aload_n 3, 1) := by decide +kernel
theorem dL_letter_1 : decode cL_letter 1 = .ok (.iconst 0, 1) := by decide +kernel
theorem dL_letter_2 : decode cL_letter 2 = .ok (.aload_n 0, 1) := by decide +kernel
theorem dL_letter_3 : decode cL_letter 3 = .ok (.iload_n 1, 1) := by decide +kernel
theorem dL_letter_4 : decode cL_letter 4 = .ok (.iload_n 2, 1) := by decide +kernel
theorem dL_letter_5 : decode cL_letter 5 = .ok (.invokevirtual 42, 3) := by decide +kernel
theorem dL_letter_8 : decode cL_letter 8 = .ok (.i2l, 1) := by decide +kernel
theorem dL_letter_9 : decode cL_letter 9 = .ok (.lastore, 1) := by decide +kernel
theorem dL_letter_10 : decode cL_letter 10 = .ok (.goto 7, 3) := by decide +kernel
theorem dL_letter_13 : decode cL_letter 13 = .ok (.astore 4, 2) := by decide +kernel
theorem dL_letter_15 : decode cL_letter 15 = .ok (.iconst 1, 1) := by decide +kernel
theorem dL_letter_16 : decode cL_letter 16 = .ok (.ireturn, 1) := by decide +kernel
theorem dL_letter_17 : decode cL_letter 17 = .ok (.iconst 0, 1) := by decide +kernel
theorem dL_letter_18 : decode cL_letter 18 = .ok (.ireturn, 1) := by decide +kernel
theorem dL_block_0 : decode cL_block 0 = .ok (.aload 4, 2) := by decide +kernel
theorem dL_block_2 : decode cL_block 2 = .ok (.iconst 0, 1) := by decide +kernel
theorem dL_block_3 : decode cL_block 3 = .ok (.aload_n 0, 1) := by decide +kernel
theorem dL_block_4 : decode cL_block 4 = .ok (.iload_n 1, 1) := by decide +kernel
theorem dL_block_5 : decode cL_block 5 = .ok (.iload_n 2, 1) := by decide +kernel
theorem dL_block_6 : decode cL_block 6 = .ok (.iload_n 3, 1) := by decide +kernel
theorem dL_block_7 : decode cL_block 7 = .ok (.invokevirtual 45, 3) := by decide +kernel
theorem dL_block_10 : decode cL_block 10 = .ok (.i2l, 1) := by decide +kernel
theorem dL_block_11 : decode cL_block 11 = .ok (.lastore, 1) := by decide +kernel
theorem dL_block_12 : decode cL_block 12 = .ok (.goto 11, 3) := by decide +kernel
theorem dL_block_15 : decode cL_block 15 = .ok (.astore 5, 2) := by decide +kernel
theorem dL_block_17 : decode cL_block 17 = .ok (.iconst 1, 1) := by decide +kernel
theorem dL_block_18 : decode cL_block 18 = .ok (.ireturn, 1) := by decide +kernel
theorem dL_block_19 : decode cL_block 19 = .ok (.astore 5, 2) := by decide +kernel
theorem dL_block_21 : decode cL_block 21 = .ok (.iconst 2, 1) := by decide +kernel
theorem dL_block_22 : decode cL_block 22 = .ok (.ireturn, 1) := by decide +kernel
theorem dL_block_23 : decode cL_block 23 = .ok (.iconst 0, 1) := by decide +kernel
theorem dL_block_24 : decode cL_block 24 = .ok (.ireturn, 1) := by decide +kernel
theorem dL_posting_0 : decode cL_posting 0 = .ok (.aload 4, 2) := by decide +kernel
theorem dL_posting_2 : decode cL_posting 2 = .ok (.iconst 0, 1) := by decide +kernel
theorem dL_posting_3 : decode cL_posting 3 = .ok (.aload_n 0, 1) := by decide +kernel
theorem dL_posting_4 : decode cL_posting 4 = .ok (.iload_n 1, 1) := by decide +kernel
theorem dL_posting_5 : decode cL_posting 5 = .ok (.iload_n 2, 1) := by decide +kernel
theorem dL_posting_6 : decode cL_posting 6 = .ok (.iload_n 3, 1) := by decide +kernel
theorem dL_posting_7 : decode cL_posting 7 = .ok (.invokevirtual 49, 3) := by decide +kernel
theorem dL_posting_10 : decode cL_posting 10 = .ok (.i2l, 1) := by decide +kernel
theorem dL_posting_11 : decode cL_posting 11 = .ok (.lastore, 1) := by decide +kernel
theorem dL_posting_12 : decode cL_posting 12 = .ok (.goto 11, 3) := by decide +kernel
theorem dL_posting_15 : decode cL_posting 15 = .ok (.astore 5, 2) := by decide +kernel
theorem dL_posting_17 : decode cL_posting 17 = .ok (.iconst 1, 1) := by decide +kernel
theorem dL_posting_18 : decode cL_posting 18 = .ok (.ireturn, 1) := by decide +kernel
theorem dL_posting_19 : decode cL_posting 19 = .ok (.astore 5, 2) := by decide +kernel
theorem dL_posting_21 : decode cL_posting 21 = .ok (.iconst 2, 1) := by decide +kernel
theorem dL_posting_22 : decode cL_posting 22 = .ok (.ireturn, 1) := by decide +kernel
theorem dL_posting_23 : decode cL_posting 23 = .ok (.iconst 0, 1) := by decide +kernel
theorem dL_posting_24 : decode cL_posting 24 = .ok (.ireturn, 1) := by decide +kernel
theorem dL_position_0 : decode cL_position 0 = .ok (.aload 4, 2) := by decide +kernel
theorem dL_position_2 : decode cL_position 2 = .ok (.iconst 0, 1) := by decide +kernel
theorem dL_position_3 : decode cL_position 3 = .ok (.aload_n 0, 1) := by decide +kernel
theorem dL_position_4 : decode cL_position 4 = .ok (.iload_n 1, 1) := by decide +kernel
theorem dL_position_5 : decode cL_position 5 = .ok (.iload_n 2, 1) := by decide +kernel
theorem dL_position_6 : decode cL_position 6 = .ok (.iload_n 3, 1) := by decide +kernel
theorem dL_position_7 : decode cL_position 7 = .ok (.invokevirtual 52, 3) := by decide +kernel
theorem dL_position_10 : decode cL_position 10 = .ok (.i2l, 1) := by decide +kernel
theorem dL_position_11 : decode cL_position 11 = .ok (.lastore, 1) := by decide +kernel
theorem dL_position_12 : decode cL_position 12 = .ok (.goto 7, 3) := by decide +kernel
theorem dL_position_15 : decode cL_position 15 = .ok (.astore 5, 2) := by decide +kernel
theorem dL_position_17 : decode cL_position 17 = .ok (.iconst 1, 1) := by decide +kernel
theorem dL_position_18 : decode cL_position 18 = .ok (.ireturn, 1) := by decide +kernel
theorem dL_position_19 : decode cL_position 19 = .ok (.iconst 0, 1) := by decide +kernel
theorem dL_position_20 : decode cL_position 20 = .ok (.ireturn, 1) := by decide +kernel
theorem dL_common_0 : decode cL_common 0 = .ok (.aload_n 2, 1) := by decide +kernel
theorem dL_common_1 : decode cL_common 1 = .ok (.iconst 0, 1) := by decide +kernel
theorem dL_common_2 : decode cL_common 2 = .ok (.aload_n 0, 1) := by decide +kernel
theorem dL_common_3 : decode cL_common 3 = .ok (.iload_n 1, 1) := by decide +kernel
theorem dL_common_4 : decode cL_common 4 = .ok (.invokevirtual 55, 3) := by decide +kernel
theorem dL_common_7 : decode cL_common 7 = .ok (.i2l, 1) := by decide +kernel
theorem dL_common_8 : decode cL_common 8 = .ok (.lastore, 1) := by decide +kernel
theorem dL_common_9 : decode cL_common 9 = .ok (.goto 6, 3) := by decide +kernel
theorem dL_common_12 : decode cL_common 12 = .ok (.astore_n 3, 1) := by decide +kernel
theorem dL_common_13 : decode cL_common 13 = .ok (.iconst 1, 1) := by decide +kernel
theorem dL_common_14 : decode cL_common 14 = .ok (.ireturn, 1) := by decide +kernel
theorem dL_common_15 : decode cL_common 15 = .ok (.iconst 0, 1) := by decide +kernel
theorem dL_common_16 : decode cL_common 16 = .ok (.ireturn, 1) := by decide +kernel
theorem dL_alike_0 : decode cL_alike 0 = .ok (.aload_n 3, 1) := by decide +kernel
theorem dL_alike_1 : decode cL_alike 1 = .ok (.iconst 0, 1) := by decide +kernel
theorem dL_alike_2 : decode cL_alike 2 = .ok (.aload_n 0, 1) := by decide +kernel
theorem dL_alike_3 : decode cL_alike 3 = .ok (.iload_n 1, 1) := by decide +kernel
theorem dL_alike_4 : decode cL_alike 4 = .ok (.iload_n 2, 1) := by decide +kernel
theorem dL_alike_5 : decode cL_alike 5 = .ok (.invokevirtual 58, 3) := by decide +kernel
theorem dL_alike_8 : decode cL_alike 8 = .ok (.i2l, 1) := by decide +kernel
theorem dL_alike_9 : decode cL_alike 9 = .ok (.lastore, 1) := by decide +kernel
theorem dL_alike_10 : decode cL_alike 10 = .ok (.goto 7, 3) := by decide +kernel
theorem dL_alike_13 : decode cL_alike 13 = .ok (.astore 4, 2) := by decide +kernel
theorem dL_alike_15 : decode cL_alike 15 = .ok (.iconst 1, 1) := by decide +kernel
theorem dL_alike_16 : decode cL_alike 16 = .ok (.ireturn, 1) := by decide +kernel
theorem dL_alike_17 : decode cL_alike 17 = .ok (.iconst 0, 1) := by decide +kernel
theorem dL_alike_18 : decode cL_alike 18 = .ok (.ireturn, 1) := by decide +kernel
theorem dL_scored_0 : decode cL_scored 0 = .ok (.aload_n 3, 1) := by decide +kernel
theorem dL_scored_1 : decode cL_scored 1 = .ok (.iconst 0, 1) := by decide +kernel
theorem dL_scored_2 : decode cL_scored 2 = .ok (.aload_n 0, 1) := by decide +kernel
theorem dL_scored_3 : decode cL_scored 3 = .ok (.iload_n 1, 1) := by decide +kernel
theorem dL_scored_4 : decode cL_scored 4 = .ok (.iload_n 2, 1) := by decide +kernel
theorem dL_scored_5 : decode cL_scored 5 = .ok (.invokevirtual 61, 3) := by decide +kernel
theorem dL_scored_8 : decode cL_scored 8 = .ok (.i2l, 1) := by decide +kernel
theorem dL_scored_9 : decode cL_scored 9 = .ok (.lastore, 1) := by decide +kernel
theorem dL_scored_10 : decode cL_scored 10 = .ok (.goto 7, 3) := by decide +kernel
theorem dL_scored_13 : decode cL_scored 13 = .ok (.astore 4, 2) := by decide +kernel
theorem dL_scored_15 : decode cL_scored 15 = .ok (.iconst 1, 1) := by decide +kernel
theorem dL_scored_16 : decode cL_scored 16 = .ok (.ireturn, 1) := by decide +kernel
theorem dL_scored_17 : decode cL_scored 17 = .ok (.iconst 0, 1) := by decide +kernel
theorem dL_scored_18 : decode cL_scored 18 = .ok (.ireturn, 1) := by decide +kernel
theorem dL_why_0 : decode cL_why 0 = .ok (.aload_n 2, 1) := by decide +kernel
theorem dL_why_1 : decode cL_why 1 = .ok (.iconst 0, 1) := by decide +kernel
theorem dL_why_2 : decode cL_why 2 = .ok (.aload_n 0, 1) := by decide +kernel
theorem dL_why_3 : decode cL_why 3 = .ok (.iload_n 1, 1) := by decide +kernel
theorem dL_why_4 : decode cL_why 4 = .ok (.invokevirtual 64, 3) := by decide +kernel
theorem dL_why_7 : decode cL_why 7 = .ok (.i2l, 1) := by decide +kernel
theorem dL_why_8 : decode cL_why 8 = .ok (.lastore, 1) := by decide +kernel
theorem dL_why_9 : decode cL_why 9 = .ok (.goto 6, 3) := by decide +kernel
theorem dL_why_12 : decode cL_why 12 = .ok (.astore_n 3, 1) := by decide +kernel
theorem dL_why_13 : decode cL_why 13 = .ok (.iconst 1, 1) := by decide +kernel
theorem dL_why_14 : decode cL_why 14 = .ok (.ireturn, 1) := by decide +kernel
theorem dL_why_15 : decode cL_why 15 = .ok (.iconst 0, 1) := by decide +kernel
theorem dL_why_16 : decode cL_why 16 = .ok (.ireturn, 1) := by decide +kernel
theorem dL_score_0 : decode cL_score 0 = .ok (.aload_n 2, 1) := by decide +kernel
theorem dL_score_1 : decode cL_score 1 = .ok (.iconst 0, 1) := by decide +kernel
theorem dL_score_2 : decode cL_score 2 = .ok (.aload_n 0, 1) := by decide +kernel
theorem dL_score_3 : decode cL_score 3 = .ok (.iload_n 1, 1) := by decide +kernel
theorem dL_score_4 : decode cL_score 4 = .ok (.invokevirtual 67, 3) := by decide +kernel
theorem dL_score_7 : decode cL_score 7 = .ok (.i2l, 1) := by decide +kernel
theorem dL_score_8 : decode cL_score 8 = .ok (.lastore, 1) := by decide +kernel
theorem dL_score_9 : decode cL_score 9 = .ok (.goto 6, 3) := by decide +kernel
theorem dL_score_12 : decode cL_score 12 = .ok (.astore_n 3, 1) := by decide +kernel
theorem dL_score_13 : decode cL_score 13 = .ok (.iconst 1, 1) := by decide +kernel
theorem dL_score_14 : decode cL_score 14 = .ok (.ireturn, 1) := by decide +kernel
theorem dL_score_15 : decode cL_score 15 = .ok (.iconst 0, 1) := by decide +kernel
theorem dL_score_16 : decode cL_score 16 = .ok (.ireturn, 1) := by decide +kernel
theorem dL_near_0 : decode cL_near 0 = .ok (.aload_n 2, 1) := by decide +kernel
theorem dL_near_1 : decode cL_near 1 = .ok (.iconst 0, 1) := by decide +kernel
theorem dL_near_2 : decode cL_near 2 = .ok (.aload_n 0, 1) := by decide +kernel
theorem dL_near_3 : decode cL_near 3 = .ok (.iload_n 1, 1) := by decide +kernel
theorem dL_near_4 : decode cL_near 4 = .ok (.invokevirtual 70, 3) := by decide +kernel
theorem dL_near_7 : decode cL_near 7 = .ok (.i2l, 1) := by decide +kernel
theorem dL_near_8 : decode cL_near 8 = .ok (.lastore, 1) := by decide +kernel
theorem dL_near_9 : decode cL_near 9 = .ok (.goto 6, 3) := by decide +kernel
theorem dL_near_12 : decode cL_near 12 = .ok (.astore_n 3, 1) := by decide +kernel
theorem dL_near_13 : decode cL_near 13 = .ok (.iconst 1, 1) := by decide +kernel
theorem dL_near_14 : decode cL_near 14 = .ok (.ireturn, 1) := by decide +kernel
theorem dL_near_15 : decode cL_near 15 = .ok (.iconst 0, 1) := by decide +kernel
theorem dL_near_16 : decode cL_near 16 = .ok (.ireturn, 1) := by decide +kernel
theorem dL_window_0 : decode cL_window 0 = .ok (.aload_n 3, 1) := by decide +kernel
theorem dL_window_1 : decode cL_window 1 = .ok (.iconst 0, 1) := by decide +kernel
theorem dL_window_2 : decode cL_window 2 = .ok (.aload_n 0, 1) := by decide +kernel
theorem dL_window_3 : decode cL_window 3 = .ok (.iload_n 1, 1) := by decide +kernel
theorem dL_window_4 : decode cL_window 4 = .ok (.iload_n 2, 1) := by decide +kernel
theorem dL_window_5 : decode cL_window 5 = .ok (.invokevirtual 73, 3) := by decide +kernel
theorem dL_window_8 : decode cL_window 8 = .ok (.i2l, 1) := by decide +kernel
theorem dL_window_9 : decode cL_window 9 = .ok (.lastore, 1) := by decide +kernel
theorem dL_window_10 : decode cL_window 10 = .ok (.goto 11, 3) := by decide +kernel
theorem dL_window_13 : decode cL_window 13 = .ok (.astore 4, 2) := by decide +kernel
theorem dL_window_15 : decode cL_window 15 = .ok (.iconst 1, 1) := by decide +kernel
theorem dL_window_16 : decode cL_window 16 = .ok (.ireturn, 1) := by decide +kernel
theorem dL_window_17 : decode cL_window 17 = .ok (.astore 4, 2) := by decide +kernel
theorem dL_window_19 : decode cL_window 19 = .ok (.iconst 2, 1) := by decide +kernel
theorem dL_window_20 : decode cL_window 20 = .ok (.ireturn, 1) := by decide +kernel
theorem dL_window_21 : decode cL_window 21 = .ok (.iconst 0, 1) := by decide +kernel
theorem dL_window_22 : decode cL_window 22 = .ok (.ireturn, 1) := by decide +kernel
theorem dL_answer_0 : decode cL_answer 0 = .ok (.aload_n 3, 1) := by decide +kernel
theorem dL_answer_1 : decode cL_answer 1 = .ok (.iconst 0, 1) := by decide +kernel
theorem dL_answer_2 : decode cL_answer 2 = .ok (.aload_n 0, 1) := by decide +kernel
theorem dL_answer_3 : decode cL_answer 3 = .ok (.iload_n 1, 1) := by decide +kernel
theorem dL_answer_4 : decode cL_answer 4 = .ok (.iload_n 2, 1) := by decide +kernel
theorem dL_answer_5 : decode cL_answer 5 = .ok (.invokevirtual 76, 3) := by decide +kernel
theorem dL_answer_8 : decode cL_answer 8 = .ok (.i2l, 1) := by decide +kernel
theorem dL_answer_9 : decode cL_answer 9 = .ok (.lastore, 1) := by decide +kernel
theorem dL_answer_10 : decode cL_answer 10 = .ok (.goto 11, 3) := by decide +kernel
theorem dL_answer_13 : decode cL_answer 13 = .ok (.astore 4, 2) := by decide +kernel
theorem dL_answer_15 : decode cL_answer 15 = .ok (.iconst 1, 1) := by decide +kernel
theorem dL_answer_16 : decode cL_answer 16 = .ok (.ireturn, 1) := by decide +kernel
theorem dL_answer_17 : decode cL_answer 17 = .ok (.astore 4, 2) := by decide +kernel
theorem dL_answer_19 : decode cL_answer 19 = .ok (.iconst 2, 1) := by decide +kernel
theorem dL_answer_20 : decode cL_answer 20 = .ok (.ireturn, 1) := by decide +kernel
theorem dL_answer_21 : decode cL_answer 21 = .ok (.iconst 0, 1) := by decide +kernel
theorem dL_answer_22 : decode cL_answer 22 = .ok (.ireturn, 1) := by decide +kernel
theorem dL_place_0 : decode cL_place 0 = .ok (.aload_n 2, 1) := by decide +kernel
theorem dL_place_1 : decode cL_place 1 = .ok (.iconst 0, 1) := by decide +kernel
theorem dL_place_2 : decode cL_place 2 = .ok (.aload_n 0, 1) := by decide +kernel
theorem dL_place_3 : decode cL_place 3 = .ok (.iload_n 1, 1) := by decide +kernel
theorem dL_place_4 : decode cL_place 4 = .ok (.invokevirtual 79, 3) := by decide +kernel
theorem dL_place_7 : decode cL_place 7 = .ok (.i2l, 1) := by decide +kernel
theorem dL_place_8 : decode cL_place 8 = .ok (.lastore, 1) := by decide +kernel
theorem dL_place_9 : decode cL_place 9 = .ok (.goto 6, 3) := by decide +kernel
theorem dL_place_12 : decode cL_place 12 = .ok (.astore_n 3, 1) := by decide +kernel
theorem dL_place_13 : decode cL_place 13 = .ok (.iconst 1, 1) := by decide +kernel
theorem dL_place_14 : decode cL_place 14 = .ok (.ireturn, 1) := by decide +kernel
theorem dL_place_15 : decode cL_place 15 = .ok (.iconst 0, 1) := by decide +kernel
theorem dL_place_16 : decode cL_place 16 = .ok (.ireturn, 1) := by decide +kernel
theorem dL_early_0 : decode cL_early 0 = .ok (.aload_n 3, 1) := by decide +kernel
theorem dL_early_1 : decode cL_early 1 = .ok (.iconst 0, 1) := by decide +kernel
theorem dL_early_2 : decode cL_early 2 = .ok (.aload_n 0, 1) := by decide +kernel
theorem dL_early_3 : decode cL_early 3 = .ok (.iload_n 1, 1) := by decide +kernel
theorem dL_early_4 : decode cL_early 4 = .ok (.iload_n 2, 1) := by decide +kernel
theorem dL_early_5 : decode cL_early 5 = .ok (.invokevirtual 82, 3) := by decide +kernel
theorem dL_early_8 : decode cL_early 8 = .ok (.i2l, 1) := by decide +kernel
theorem dL_early_9 : decode cL_early 9 = .ok (.lastore, 1) := by decide +kernel
theorem dL_early_10 : decode cL_early 10 = .ok (.goto 7, 3) := by decide +kernel
theorem dL_early_13 : decode cL_early 13 = .ok (.astore 4, 2) := by decide +kernel
theorem dL_early_15 : decode cL_early 15 = .ok (.iconst 1, 1) := by decide +kernel
theorem dL_early_16 : decode cL_early 16 = .ok (.ireturn, 1) := by decide +kernel
theorem dL_early_17 : decode cL_early 17 = .ok (.iconst 0, 1) := by decide +kernel
theorem dL_early_18 : decode cL_early 18 = .ok (.ireturn, 1) := by decide +kernel
theorem dL_best_0 : decode cL_best 0 = .ok (.aload_n 3, 1) := by decide +kernel
theorem dL_best_1 : decode cL_best 1 = .ok (.iconst 0, 1) := by decide +kernel
theorem dL_best_2 : decode cL_best 2 = .ok (.aload_n 0, 1) := by decide +kernel
theorem dL_best_3 : decode cL_best 3 = .ok (.iload_n 1, 1) := by decide +kernel
theorem dL_best_4 : decode cL_best 4 = .ok (.iload_n 2, 1) := by decide +kernel
theorem dL_best_5 : decode cL_best 5 = .ok (.invokevirtual 85, 3) := by decide +kernel
theorem dL_best_8 : decode cL_best 8 = .ok (.i2l, 1) := by decide +kernel
theorem dL_best_9 : decode cL_best 9 = .ok (.lastore, 1) := by decide +kernel
theorem dL_best_10 : decode cL_best 10 = .ok (.goto 7, 3) := by decide +kernel
theorem dL_best_13 : decode cL_best 13 = .ok (.astore 4, 2) := by decide +kernel
theorem dL_best_15 : decode cL_best 15 = .ok (.iconst 1, 1) := by decide +kernel
theorem dL_best_16 : decode cL_best 16 = .ok (.ireturn, 1) := by decide +kernel
theorem dL_best_17 : decode cL_best 17 = .ok (.iconst 0, 1) := by decide +kernel
theorem dL_best_18 : decode cL_best 18 = .ok (.ireturn, 1) := by decide +kernel
theorem dL_opened_0 : decode cL_opened 0 = .ok (.aload 4, 2) := by decide +kernel
theorem dL_opened_2 : decode cL_opened 2 = .ok (.iconst 0, 1) := by decide +kernel
theorem dL_opened_3 : decode cL_opened 3 = .ok (.aload_n 0, 1) := by decide +kernel
theorem dL_opened_4 : decode cL_opened 4 = .ok (.iload_n 1, 1) := by decide +kernel
theorem dL_opened_5 : decode cL_opened 5 = .ok (.iload_n 2, 1) := by decide +kernel
theorem dL_opened_6 : decode cL_opened 6 = .ok (.iload_n 3, 1) := by decide +kernel
theorem dL_opened_7 : decode cL_opened 7 = .ok (.invokevirtual 88, 3) := by decide +kernel
theorem dL_opened_10 : decode cL_opened 10 = .ok (.i2l, 1) := by decide +kernel
theorem dL_opened_11 : decode cL_opened 11 = .ok (.lastore, 1) := by decide +kernel
theorem dL_opened_12 : decode cL_opened 12 = .ok (.goto 11, 3) := by decide +kernel
theorem dL_opened_15 : decode cL_opened 15 = .ok (.astore 5, 2) := by decide +kernel
theorem dL_opened_17 : decode cL_opened 17 = .ok (.iconst 1, 1) := by decide +kernel
theorem dL_opened_18 : decode cL_opened 18 = .ok (.ireturn, 1) := by decide +kernel
theorem dL_opened_19 : decode cL_opened 19 = .ok (.astore 5, 2) := by decide +kernel
theorem dL_opened_21 : decode cL_opened 21 = .ok (.iconst 2, 1) := by decide +kernel
theorem dL_opened_22 : decode cL_opened 22 = .ok (.ireturn, 1) := by decide +kernel
theorem dL_opened_23 : decode cL_opened 23 = .ok (.iconst 0, 1) := by decide +kernel
theorem dL_opened_24 : decode cL_opened 24 = .ok (.ireturn, 1) := by decide +kernel
theorem dL_inside_0 : decode cL_inside 0 = .ok (.aload_n 3, 1) := by decide +kernel
theorem dL_inside_1 : decode cL_inside 1 = .ok (.iconst 0, 1) := by decide +kernel
theorem dL_inside_2 : decode cL_inside 2 = .ok (.aload_n 0, 1) := by decide +kernel
theorem dL_inside_3 : decode cL_inside 3 = .ok (.iload_n 1, 1) := by decide +kernel
theorem dL_inside_4 : decode cL_inside 4 = .ok (.iload_n 2, 1) := by decide +kernel
theorem dL_inside_5 : decode cL_inside 5 = .ok (.invokevirtual 91, 3) := by decide +kernel
theorem dL_inside_8 : decode cL_inside 8 = .ok (.i2l, 1) := by decide +kernel
theorem dL_inside_9 : decode cL_inside 9 = .ok (.lastore, 1) := by decide +kernel
theorem dL_inside_10 : decode cL_inside 10 = .ok (.goto 7, 3) := by decide +kernel
theorem dL_inside_13 : decode cL_inside 13 = .ok (.astore 4, 2) := by decide +kernel
theorem dL_inside_15 : decode cL_inside 15 = .ok (.iconst 1, 1) := by decide +kernel
theorem dL_inside_16 : decode cL_inside 16 = .ok (.ireturn, 1) := by decide +kernel
theorem dL_inside_17 : decode cL_inside 17 = .ok (.iconst 0, 1) := by decide +kernel
theorem dL_inside_18 : decode cL_inside 18 = .ok (.ireturn, 1) := by decide +kernel
theorem dL_bits_0 : decode cL_bits 0 = .ok (.aload_n 2, 1) := by decide +kernel
theorem dL_bits_1 : decode cL_bits 1 = .ok (.iconst 0, 1) := by decide +kernel
theorem dL_bits_2 : decode cL_bits 2 = .ok (.aload_n 0, 1) := by decide +kernel
theorem dL_bits_3 : decode cL_bits 3 = .ok (.iload_n 1, 1) := by decide +kernel
theorem dL_bits_4 : decode cL_bits 4 = .ok (.invokevirtual 94, 3) := by decide +kernel
theorem dL_bits_7 : decode cL_bits 7 = .ok (.i2l, 1) := by decide +kernel
theorem dL_bits_8 : decode cL_bits 8 = .ok (.lastore, 1) := by decide +kernel
theorem dL_bits_9 : decode cL_bits 9 = .ok (.goto 6, 3) := by decide +kernel
theorem dL_bits_12 : decode cL_bits 12 = .ok (.astore_n 3, 1) := by decide +kernel
theorem dL_bits_13 : decode cL_bits 13 = .ok (.iconst 1, 1) := by decide +kernel
theorem dL_bits_14 : decode cL_bits 14 = .ok (.ireturn, 1) := by decide +kernel
theorem dL_bits_15 : decode cL_bits 15 = .ok (.iconst 0, 1) := by decide +kernel
theorem dL_bits_16 : decode cL_bits 16 = .ok (.ireturn, 1) := by decide +kernel
theorem dL_swift_0 : decode cL_swift 0 = .ok (.aload_n 3, 1) := by decide +kernel
theorem dL_swift_1 : decode cL_swift 1 = .ok (.iconst 0, 1) := by decide +kernel
theorem dL_swift_2 : decode cL_swift 2 = .ok (.aload_n 0, 1) := by decide +kernel
theorem dL_swift_3 : decode cL_swift 3 = .ok (.iload_n 1, 1) := by decide +kernel
theorem dL_swift_4 : decode cL_swift 4 = .ok (.iload_n 2, 1) := by decide +kernel
theorem dL_swift_5 : decode cL_swift 5 = .ok (.invokevirtual 97, 3) := by decide +kernel
theorem dL_swift_8 : decode cL_swift 8 = .ok (.i2l, 1) := by decide +kernel
theorem dL_swift_9 : decode cL_swift 9 = .ok (.lastore, 1) := by decide +kernel
theorem dL_swift_10 : decode cL_swift 10 = .ok (.goto 7, 3) := by decide +kernel
theorem dL_swift_13 : decode cL_swift 13 = .ok (.astore 4, 2) := by decide +kernel
theorem dL_swift_15 : decode cL_swift 15 = .ok (.iconst 1, 1) := by decide +kernel
theorem dL_swift_16 : decode cL_swift 16 = .ok (.ireturn, 1) := by decide +kernel
theorem dL_swift_17 : decode cL_swift 17 = .ok (.iconst 0, 1) := by decide +kernel
theorem dL_swift_18 : decode cL_swift 18 = .ok (.ireturn, 1) := by decide +kernel
theorem dL_blockOf_0 : decode cL_blockOf 0 = .ok (.aload_n 3, 1) := by decide +kernel
theorem dL_blockOf_1 : decode cL_blockOf 1 = .ok (.iconst 0, 1) := by decide +kernel
theorem dL_blockOf_2 : decode cL_blockOf 2 = .ok (.aload_n 0, 1) := by decide +kernel
theorem dL_blockOf_3 : decode cL_blockOf 3 = .ok (.iload_n 1, 1) := by decide +kernel
theorem dL_blockOf_4 : decode cL_blockOf 4 = .ok (.iload_n 2, 1) := by decide +kernel
theorem dL_blockOf_5 : decode cL_blockOf 5 = .ok (.invokevirtual 100, 3) := by decide +kernel
theorem dL_blockOf_8 : decode cL_blockOf 8 = .ok (.i2l, 1) := by decide +kernel
theorem dL_blockOf_9 : decode cL_blockOf 9 = .ok (.lastore, 1) := by decide +kernel
theorem dL_blockOf_10 : decode cL_blockOf 10 = .ok (.goto 7, 3) := by decide +kernel
theorem dL_blockOf_13 : decode cL_blockOf 13 = .ok (.astore 4, 2) := by decide +kernel
theorem dL_blockOf_15 : decode cL_blockOf 15 = .ok (.iconst 1, 1) := by decide +kernel
theorem dL_blockOf_16 : decode cL_blockOf 16 = .ok (.ireturn, 1) := by decide +kernel
theorem dL_blockOf_17 : decode cL_blockOf 17 = .ok (.iconst 0, 1) := by decide +kernel
theorem dL_blockOf_18 : decode cL_blockOf 18 = .ok (.ireturn, 1) := by decide +kernel
theorem dL_spread_0 : decode cL_spread 0 = .ok (.aload_n 2, 1) := by decide +kernel
theorem dL_spread_1 : decode cL_spread 1 = .ok (.iconst 0, 1) := by decide +kernel
theorem dL_spread_2 : decode cL_spread 2 = .ok (.aload_n 0, 1) := by decide +kernel
theorem dL_spread_3 : decode cL_spread 3 = .ok (.iload_n 1, 1) := by decide +kernel
theorem dL_spread_4 : decode cL_spread 4 = .ok (.invokevirtual 103, 3) := by decide +kernel
theorem dL_spread_7 : decode cL_spread 7 = .ok (.i2l, 1) := by decide +kernel
theorem dL_spread_8 : decode cL_spread 8 = .ok (.lastore, 1) := by decide +kernel
theorem dL_spread_9 : decode cL_spread 9 = .ok (.goto 6, 3) := by decide +kernel
theorem dL_spread_12 : decode cL_spread 12 = .ok (.astore_n 3, 1) := by decide +kernel
theorem dL_spread_13 : decode cL_spread 13 = .ok (.iconst 1, 1) := by decide +kernel
theorem dL_spread_14 : decode cL_spread 14 = .ok (.ireturn, 1) := by decide +kernel
theorem dL_spread_15 : decode cL_spread 15 = .ok (.iconst 0, 1) := by decide +kernel
theorem dL_spread_16 : decode cL_spread 16 = .ok (.ireturn, 1) := by decide +kernel
theorem dL_nearest_0 : decode cL_nearest 0 = .ok (.aload_n 2, 1) := by decide +kernel
theorem dL_nearest_1 : decode cL_nearest 1 = .ok (.iconst 0, 1) := by decide +kernel
theorem dL_nearest_2 : decode cL_nearest 2 = .ok (.aload_n 0, 1) := by decide +kernel
theorem dL_nearest_3 : decode cL_nearest 3 = .ok (.iload_n 1, 1) := by decide +kernel
theorem dL_nearest_4 : decode cL_nearest 4 = .ok (.invokevirtual 106, 3) := by decide +kernel
theorem dL_nearest_7 : decode cL_nearest 7 = .ok (.i2l, 1) := by decide +kernel
theorem dL_nearest_8 : decode cL_nearest 8 = .ok (.lastore, 1) := by decide +kernel
theorem dL_nearest_9 : decode cL_nearest 9 = .ok (.goto 6, 3) := by decide +kernel
theorem dL_nearest_12 : decode cL_nearest 12 = .ok (.astore_n 3, 1) := by decide +kernel
theorem dL_nearest_13 : decode cL_nearest 13 = .ok (.iconst 1, 1) := by decide +kernel
theorem dL_nearest_14 : decode cL_nearest 14 = .ok (.ireturn, 1) := by decide +kernel
theorem dL_nearest_15 : decode cL_nearest 15 = .ok (.iconst 0, 1) := by decide +kernel
theorem dL_nearest_16 : decode cL_nearest 16 = .ok (.ireturn, 1) := by decide +kernel
theorem dL_rarest_0 : decode cL_rarest 0 = .ok (.aload_n 2, 1) := by decide +kernel
theorem dL_rarest_1 : decode cL_rarest 1 = .ok (.iconst 0, 1) := by decide +kernel
theorem dL_rarest_2 : decode cL_rarest 2 = .ok (.aload_n 0, 1) := by decide +kernel
theorem dL_rarest_3 : decode cL_rarest 3 = .ok (.iload_n 1, 1) := by decide +kernel
theorem dL_rarest_4 : decode cL_rarest 4 = .ok (.invokevirtual 109, 3) := by decide +kernel
theorem dL_rarest_7 : decode cL_rarest 7 = .ok (.i2l, 1) := by decide +kernel
theorem dL_rarest_8 : decode cL_rarest 8 = .ok (.lastore, 1) := by decide +kernel
theorem dL_rarest_9 : decode cL_rarest 9 = .ok (.goto 6, 3) := by decide +kernel
theorem dL_rarest_12 : decode cL_rarest 12 = .ok (.astore_n 3, 1) := by decide +kernel
theorem dL_rarest_13 : decode cL_rarest 13 = .ok (.iconst 1, 1) := by decide +kernel
theorem dL_rarest_14 : decode cL_rarest 14 = .ok (.ireturn, 1) := by decide +kernel
theorem dL_rarest_15 : decode cL_rarest 15 = .ok (.iconst 0, 1) := by decide +kernel
theorem dL_rarest_16 : decode cL_rarest 16 = .ok (.ireturn, 1) := by decide +kernel
theorem dL_points_0 : decode cL_points 0 = .ok (.aload_n 3, 1) := by decide +kernel
theorem dL_points_1 : decode cL_points 1 = .ok (.iconst 0, 1) := by decide +kernel
theorem dL_points_2 : decode cL_points 2 = .ok (.aload_n 0, 1) := by decide +kernel
theorem dL_points_3 : decode cL_points 3 = .ok (.iload_n 1, 1) := by decide +kernel
theorem dL_points_4 : decode cL_points 4 = .ok (.iload_n 2, 1) := by decide +kernel
theorem dL_points_5 : decode cL_points 5 = .ok (.invokevirtual 112, 3) := by decide +kernel
theorem dL_points_8 : decode cL_points 8 = .ok (.i2l, 1) := by decide +kernel
theorem dL_points_9 : decode cL_points 9 = .ok (.lastore, 1) := by decide +kernel
theorem dL_points_10 : decode cL_points 10 = .ok (.goto 7, 3) := by decide +kernel
theorem dL_points_13 : decode cL_points 13 = .ok (.astore 4, 2) := by decide +kernel
theorem dL_points_15 : decode cL_points 15 = .ok (.iconst 1, 1) := by decide +kernel
theorem dL_points_16 : decode cL_points 16 = .ok (.ireturn, 1) := by decide +kernel
theorem dL_points_17 : decode cL_points 17 = .ok (.iconst 0, 1) := by decide +kernel
theorem dL_points_18 : decode cL_points 18 = .ok (.ireturn, 1) := by decide +kernel
theorem dL_phrase_0 : decode cL_phrase 0 = .ok (.aload_n 3, 1) := by decide +kernel
theorem dL_phrase_1 : decode cL_phrase 1 = .ok (.iconst 0, 1) := by decide +kernel
theorem dL_phrase_2 : decode cL_phrase 2 = .ok (.aload_n 0, 1) := by decide +kernel
theorem dL_phrase_3 : decode cL_phrase 3 = .ok (.iload_n 1, 1) := by decide +kernel
theorem dL_phrase_4 : decode cL_phrase 4 = .ok (.iload_n 2, 1) := by decide +kernel
theorem dL_phrase_5 : decode cL_phrase 5 = .ok (.invokevirtual 115, 3) := by decide +kernel
theorem dL_phrase_8 : decode cL_phrase 8 = .ok (.i2l, 1) := by decide +kernel
theorem dL_phrase_9 : decode cL_phrase 9 = .ok (.lastore, 1) := by decide +kernel
theorem dL_phrase_10 : decode cL_phrase 10 = .ok (.goto 7, 3) := by decide +kernel
theorem dL_phrase_13 : decode cL_phrase 13 = .ok (.astore 4, 2) := by decide +kernel
theorem dL_phrase_15 : decode cL_phrase 15 = .ok (.iconst 1, 1) := by decide +kernel
theorem dL_phrase_16 : decode cL_phrase 16 = .ok (.ireturn, 1) := by decide +kernel
theorem dL_phrase_17 : decode cL_phrase 17 = .ok (.iconst 0, 1) := by decide +kernel
theorem dL_phrase_18 : decode cL_phrase 18 = .ok (.ireturn, 1) := by decide +kernel
theorem dL_depth_0 : decode cL_depth 0 = .ok (.aload_n 3, 1) := by decide +kernel
theorem dL_depth_1 : decode cL_depth 1 = .ok (.iconst 0, 1) := by decide +kernel
theorem dL_depth_2 : decode cL_depth 2 = .ok (.aload_n 0, 1) := by decide +kernel
theorem dL_depth_3 : decode cL_depth 3 = .ok (.iload_n 1, 1) := by decide +kernel
theorem dL_depth_4 : decode cL_depth 4 = .ok (.iload_n 2, 1) := by decide +kernel
theorem dL_depth_5 : decode cL_depth 5 = .ok (.invokevirtual 118, 3) := by decide +kernel
theorem dL_depth_8 : decode cL_depth 8 = .ok (.i2l, 1) := by decide +kernel
theorem dL_depth_9 : decode cL_depth 9 = .ok (.lastore, 1) := by decide +kernel
theorem dL_depth_10 : decode cL_depth 10 = .ok (.goto 7, 3) := by decide +kernel
theorem dL_depth_13 : decode cL_depth 13 = .ok (.astore 4, 2) := by decide +kernel
theorem dL_depth_15 : decode cL_depth 15 = .ok (.iconst 1, 1) := by decide +kernel
theorem dL_depth_16 : decode cL_depth 16 = .ok (.ireturn, 1) := by decide +kernel
theorem dL_depth_17 : decode cL_depth 17 = .ok (.iconst 0, 1) := by decide +kernel
theorem dL_depth_18 : decode cL_depth 18 = .ok (.ireturn, 1) := by decide +kernel
theorem dL_without_0 : decode cL_without 0 = .ok (.aload_n 3, 1) := by decide +kernel
theorem dL_without_1 : decode cL_without 1 = .ok (.iconst 0, 1) := by decide +kernel
theorem dL_without_2 : decode cL_without 2 = .ok (.aload_n 0, 1) := by decide +kernel
theorem dL_without_3 : decode cL_without 3 = .ok (.iload_n 1, 1) := by decide +kernel
theorem dL_without_4 : decode cL_without 4 = .ok (.iload_n 2, 1) := by decide +kernel
theorem dL_without_5 : decode cL_without 5 = .ok (.invokevirtual 121, 3) := by decide +kernel
theorem dL_without_8 : decode cL_without 8 = .ok (.i2l, 1) := by decide +kernel
theorem dL_without_9 : decode cL_without 9 = .ok (.lastore, 1) := by decide +kernel
theorem dL_without_10 : decode cL_without 10 = .ok (.goto 7, 3) := by decide +kernel
theorem dL_without_13 : decode cL_without 13 = .ok (.astore 4, 2) := by decide +kernel
theorem dL_without_15 : decode cL_without 15 = .ok (.iconst 1, 1) := by decide +kernel
theorem dL_without_16 : decode cL_without 16 = .ok (.ireturn, 1) := by decide +kernel
theorem dL_without_17 : decode cL_without 17 = .ok (.iconst 0, 1) := by decide +kernel
theorem dL_without_18 : decode cL_without 18 = .ok (.ireturn, 1) := by decide +kernel
theorem dL_law_0 : decode cL_law 0 = .ok (.new 8, 3) := by decide +kernel
theorem dL_law_3 : decode cL_law 3 = .ok (.dup, 1) := by decide +kernel
theorem dL_law_4 : decode cL_law 4 = .ok (.invokespecial 124, 3) := by decide +kernel
theorem dL_law_7 : decode cL_law 7 = .ok (.astore_n 1, 1) := by decide +kernel
theorem dL_law_8 : decode cL_law 8 = .ok (.new 125, 3) := by decide +kernel
theorem dL_law_11 : decode cL_law 11 = .ok (.dup, 1) := by decide +kernel
theorem dL_law_12 : decode cL_law 12 = .ok (.invokespecial 127, 3) := by decide +kernel
theorem dL_law_15 : decode cL_law 15 = .ok (.astore_n 2, 1) := by decide +kernel
theorem dL_law_16 : decode cL_law 16 = .ok (.iconst 1, 1) := by decide +kernel
theorem dL_law_17 : decode cL_law 17 = .ok (.newarray .long, 2) := by decide +kernel
theorem dL_law_19 : decode cL_law 19 = .ok (.astore_n 3, 1) := by decide +kernel
theorem dL_law_20 : decode cL_law 20 = .ok (.iconst 0, 1) := by decide +kernel
theorem dL_law_21 : decode cL_law 21 = .ok (.istore 4, 2) := by decide +kernel
theorem dL_law_23 : decode cL_law 23 = .ok (.iload 4, 2) := by decide +kernel
theorem dL_law_25 : decode cL_law 25 = .ok (.aload_n 0, 1) := by decide +kernel
theorem dL_law_26 : decode cL_law 26 = .ok (.arraylength, 1) := by decide +kernel
theorem dL_law_27 : decode cL_law 27 = .ok (.bipush 6, 2) := by decide +kernel
theorem dL_law_29 : decode cL_law 29 = .ok (.isub, 1) := by decide +kernel
theorem dL_law_30 : decode cL_law 30 = .ok (.if_icmp .gt 2666, 3) := by decide +kernel
theorem dL_law_33 : decode cL_law 33 = .ok (.aload_n 0, 1) := by decide +kernel
theorem dL_law_34 : decode cL_law 34 = .ok (.iload 4, 2) := by decide +kernel
theorem dL_law_36 : decode cL_law 36 = .ok (.iaload, 1) := by decide +kernel
theorem dL_law_37 : decode cL_law 37 = .ok (.bipush 63, 2) := by decide +kernel
theorem dL_law_39 : decode cL_law 39 = .ok (.iand, 1) := by decide +kernel
theorem dL_law_40 : decode cL_law 40 = .ok (.tableswitch 2650 0 41 #[184, 257, 313, 369, 382, 438, 494, 550, 606, 674, 742, 810, 878, 958, 1038, 1118, 1174, 1242, 1310, 1366, 1422, 1478, 1546, 1559, 1627, 1683, 1751, 1819, 1899, 1967, 2023, 2036, 2104, 2172, 2185, 2241, 2297, 2353, 2421, 2489, 2557, 2625], 184) := by decide +kernel
theorem dL_law_224 : decode cL_law 224 = .ok (.aload_n 1, 1) := by decide +kernel
theorem dL_law_225 : decode cL_law 225 = .ok (.aload_n 0, 1) := by decide +kernel
theorem dL_law_226 : decode cL_law 226 = .ok (.iload 4, 2) := by decide +kernel
theorem dL_law_228 : decode cL_law 228 = .ok (.iconst 1, 1) := by decide +kernel
theorem dL_law_229 : decode cL_law 229 = .ok (.iadd, 1) := by decide +kernel
theorem dL_law_230 : decode cL_law 230 = .ok (.iaload, 1) := by decide +kernel
theorem dL_law_231 : decode cL_law 231 = .ok (.aload_n 0, 1) := by decide +kernel
theorem dL_law_232 : decode cL_law 232 = .ok (.iload 4, 2) := by decide +kernel
theorem dL_law_234 : decode cL_law 234 = .ok (.iconst 2, 1) := by decide +kernel
theorem dL_law_235 : decode cL_law 235 = .ok (.iadd, 1) := by decide +kernel
theorem dL_law_236 : decode cL_law 236 = .ok (.iaload, 1) := by decide +kernel
theorem dL_law_237 : decode cL_law 237 = .ok (.aload_n 0, 1) := by decide +kernel
theorem dL_law_238 : decode cL_law 238 = .ok (.iload 4, 2) := by decide +kernel
theorem dL_law_240 : decode cL_law 240 = .ok (.iconst 3, 1) := by decide +kernel
theorem dL_law_241 : decode cL_law 241 = .ok (.iadd, 1) := by decide +kernel
theorem dL_law_242 : decode cL_law 242 = .ok (.iaload, 1) := by decide +kernel
theorem dL_law_243 : decode cL_law 243 = .ok (.aload_n 0, 1) := by decide +kernel
theorem dL_law_244 : decode cL_law 244 = .ok (.iload 4, 2) := by decide +kernel
theorem dL_law_246 : decode cL_law 246 = .ok (.iconst 4, 1) := by decide +kernel
theorem dL_law_247 : decode cL_law 247 = .ok (.iadd, 1) := by decide +kernel
theorem dL_law_248 : decode cL_law 248 = .ok (.iaload, 1) := by decide +kernel
theorem dL_law_249 : decode cL_law 249 = .ok (.aload_n 0, 1) := by decide +kernel
theorem dL_law_250 : decode cL_law 250 = .ok (.iload 4, 2) := by decide +kernel
theorem dL_law_252 : decode cL_law 252 = .ok (.iconst 5, 1) := by decide +kernel
theorem dL_law_253 : decode cL_law 253 = .ok (.iadd, 1) := by decide +kernel
theorem dL_law_254 : decode cL_law 254 = .ok (.iaload, 1) := by decide +kernel
theorem dL_law_255 : decode cL_law 255 = .ok (.invokevirtual 128, 3) := by decide +kernel
theorem dL_law_258 : decode cL_law 258 = .ok (.aload_n 2, 1) := by decide +kernel
theorem dL_law_259 : decode cL_law 259 = .ok (.aload_n 0, 1) := by decide +kernel
theorem dL_law_260 : decode cL_law 260 = .ok (.iload 4, 2) := by decide +kernel
theorem dL_law_262 : decode cL_law 262 = .ok (.iconst 1, 1) := by decide +kernel
theorem dL_law_263 : decode cL_law 263 = .ok (.iadd, 1) := by decide +kernel
theorem dL_law_264 : decode cL_law 264 = .ok (.iaload, 1) := by decide +kernel
theorem dL_law_265 : decode cL_law 265 = .ok (.aload_n 0, 1) := by decide +kernel
theorem dL_law_266 : decode cL_law 266 = .ok (.iload 4, 2) := by decide +kernel
theorem dL_law_268 : decode cL_law 268 = .ok (.iconst 2, 1) := by decide +kernel
theorem dL_law_269 : decode cL_law 269 = .ok (.iadd, 1) := by decide +kernel
theorem dL_law_270 : decode cL_law 270 = .ok (.iaload, 1) := by decide +kernel
theorem dL_law_271 : decode cL_law 271 = .ok (.aload_n 0, 1) := by decide +kernel
theorem dL_law_272 : decode cL_law 272 = .ok (.iload 4, 2) := by decide +kernel
theorem dL_law_274 : decode cL_law 274 = .ok (.iconst 3, 1) := by decide +kernel
theorem dL_law_275 : decode cL_law 275 = .ok (.iadd, 1) := by decide +kernel
theorem dL_law_276 : decode cL_law 276 = .ok (.iaload, 1) := by decide +kernel
theorem dL_law_277 : decode cL_law 277 = .ok (.aload_n 0, 1) := by decide +kernel
theorem dL_law_278 : decode cL_law 278 = .ok (.iload 4, 2) := by decide +kernel
theorem dL_law_280 : decode cL_law 280 = .ok (.iconst 4, 1) := by decide +kernel
theorem dL_law_281 : decode cL_law 281 = .ok (.iadd, 1) := by decide +kernel
theorem dL_law_282 : decode cL_law 282 = .ok (.iaload, 1) := by decide +kernel
theorem dL_law_283 : decode cL_law 283 = .ok (.aload_n 0, 1) := by decide +kernel
theorem dL_law_284 : decode cL_law 284 = .ok (.iload 4, 2) := by decide +kernel
theorem dL_law_286 : decode cL_law 286 = .ok (.iconst 5, 1) := by decide +kernel
theorem dL_law_287 : decode cL_law 287 = .ok (.iadd, 1) := by decide +kernel
theorem dL_law_288 : decode cL_law 288 = .ok (.iaload, 1) := by decide +kernel
theorem dL_law_289 : decode cL_law 289 = .ok (.invokevirtual 132, 3) := by decide +kernel
theorem dL_law_292 : decode cL_law 292 = .ok (.if_icmp .eq 2398, 3) := by decide +kernel
theorem dL_law_295 : decode cL_law 295 = .ok (.iconst 0, 1) := by decide +kernel
theorem dL_law_296 : decode cL_law 296 = .ok (.ireturn, 1) := by decide +kernel
theorem dL_law_297 : decode cL_law 297 = .ok (.aload_n 1, 1) := by decide +kernel
theorem dL_law_298 : decode cL_law 298 = .ok (.aload_n 0, 1) := by decide +kernel
theorem dL_law_299 : decode cL_law 299 = .ok (.iload 4, 2) := by decide +kernel
theorem dL_law_301 : decode cL_law 301 = .ok (.iconst 1, 1) := by decide +kernel
theorem dL_law_302 : decode cL_law 302 = .ok (.iadd, 1) := by decide +kernel
theorem dL_law_303 : decode cL_law 303 = .ok (.iaload, 1) := by decide +kernel
theorem dL_law_304 : decode cL_law 304 = .ok (.aload_n 3, 1) := by decide +kernel
theorem dL_law_305 : decode cL_law 305 = .ok (.invokestatic 133, 3) := by decide +kernel
theorem dL_law_308 : decode cL_law 308 = .ok (.istore 5, 2) := by decide +kernel
theorem dL_law_310 : decode cL_law 310 = .ok (.aload_n 2, 1) := by decide +kernel
theorem dL_law_311 : decode cL_law 311 = .ok (.aload_n 0, 1) := by decide +kernel
theorem dL_law_312 : decode cL_law 312 = .ok (.iload 4, 2) := by decide +kernel
theorem dL_law_314 : decode cL_law 314 = .ok (.iconst 1, 1) := by decide +kernel
theorem dL_law_315 : decode cL_law 315 = .ok (.iadd, 1) := by decide +kernel
theorem dL_law_316 : decode cL_law 316 = .ok (.iaload, 1) := by decide +kernel
theorem dL_law_317 : decode cL_law 317 = .ok (.invokevirtual 138, 3) := by decide +kernel
theorem dL_law_320 : decode cL_law 320 = .ok (.istore 6, 2) := by decide +kernel
theorem dL_law_322 : decode cL_law 322 = .ok (.aload_n 2, 1) := by decide +kernel
theorem dL_law_323 : decode cL_law 323 = .ok (.invokevirtual 139, 3) := by decide +kernel
theorem dL_law_326 : decode cL_law 326 = .ok (.iload 5, 2) := by decide +kernel
theorem dL_law_328 : decode cL_law 328 = .ok (.if_icmp .eq 5, 3) := by decide +kernel
theorem dL_law_331 : decode cL_law 331 = .ok (.iconst 0, 1) := by decide +kernel
theorem dL_law_332 : decode cL_law 332 = .ok (.ireturn, 1) := by decide +kernel
theorem dL_law_333 : decode cL_law 333 = .ok (.iload 5, 2) := by decide +kernel
theorem dL_law_335 : decode cL_law 335 = .ok (.ifCond .ne 15, 3) := by decide +kernel
theorem dL_law_338 : decode cL_law 338 = .ok (.aload_n 3, 1) := by decide +kernel
theorem dL_law_339 : decode cL_law 339 = .ok (.iconst 0, 1) := by decide +kernel
theorem dL_law_340 : decode cL_law 340 = .ok (.laload, 1) := by decide +kernel
theorem dL_law_341 : decode cL_law 341 = .ok (.iload 6, 2) := by decide +kernel
theorem dL_law_343 : decode cL_law 343 = .ok (.i2l, 1) := by decide +kernel
theorem dL_law_344 : decode cL_law 344 = .ok (.lcmp, 1) := by decide +kernel
theorem dL_law_345 : decode cL_law 345 = .ok (.ifCond .eq 5, 3) := by decide +kernel
theorem dL_law_348 : decode cL_law 348 = .ok (.iconst 0, 1) := by decide +kernel
theorem dL_law_349 : decode cL_law 349 = .ok (.ireturn, 1) := by decide +kernel
theorem dL_law_350 : decode cL_law 350 = .ok (.goto 2340, 3) := by decide +kernel
theorem dL_law_353 : decode cL_law 353 = .ok (.aload_n 1, 1) := by decide +kernel
theorem dL_law_354 : decode cL_law 354 = .ok (.aload_n 0, 1) := by decide +kernel
theorem dL_law_355 : decode cL_law 355 = .ok (.iload 4, 2) := by decide +kernel
theorem dL_law_357 : decode cL_law 357 = .ok (.iconst 1, 1) := by decide +kernel
theorem dL_law_358 : decode cL_law 358 = .ok (.iadd, 1) := by decide +kernel
theorem dL_law_359 : decode cL_law 359 = .ok (.iaload, 1) := by decide +kernel
theorem dL_law_360 : decode cL_law 360 = .ok (.aload_n 3, 1) := by decide +kernel
theorem dL_law_361 : decode cL_law 361 = .ok (.invokestatic 143, 3) := by decide +kernel
theorem dL_law_364 : decode cL_law 364 = .ok (.istore 5, 2) := by decide +kernel
theorem dL_law_366 : decode cL_law 366 = .ok (.aload_n 2, 1) := by decide +kernel
theorem dL_law_367 : decode cL_law 367 = .ok (.aload_n 0, 1) := by decide +kernel
theorem dL_law_368 : decode cL_law 368 = .ok (.iload 4, 2) := by decide +kernel
theorem dL_law_370 : decode cL_law 370 = .ok (.iconst 1, 1) := by decide +kernel
theorem dL_law_371 : decode cL_law 371 = .ok (.iadd, 1) := by decide +kernel
theorem dL_law_372 : decode cL_law 372 = .ok (.iaload, 1) := by decide +kernel
theorem dL_law_373 : decode cL_law 373 = .ok (.invokevirtual 145, 3) := by decide +kernel
theorem dL_law_376 : decode cL_law 376 = .ok (.istore 6, 2) := by decide +kernel
theorem dL_law_378 : decode cL_law 378 = .ok (.aload_n 2, 1) := by decide +kernel
theorem dL_law_379 : decode cL_law 379 = .ok (.invokevirtual 139, 3) := by decide +kernel
theorem dL_law_382 : decode cL_law 382 = .ok (.iload 5, 2) := by decide +kernel
theorem dL_law_384 : decode cL_law 384 = .ok (.if_icmp .eq 5, 3) := by decide +kernel
theorem dL_law_387 : decode cL_law 387 = .ok (.iconst 0, 1) := by decide +kernel
theorem dL_law_388 : decode cL_law 388 = .ok (.ireturn, 1) := by decide +kernel
theorem dL_law_389 : decode cL_law 389 = .ok (.iload 5, 2) := by decide +kernel
theorem dL_law_391 : decode cL_law 391 = .ok (.ifCond .ne 15, 3) := by decide +kernel
theorem dL_law_394 : decode cL_law 394 = .ok (.aload_n 3, 1) := by decide +kernel
theorem dL_law_395 : decode cL_law 395 = .ok (.iconst 0, 1) := by decide +kernel
theorem dL_law_396 : decode cL_law 396 = .ok (.laload, 1) := by decide +kernel
theorem dL_law_397 : decode cL_law 397 = .ok (.iload 6, 2) := by decide +kernel
theorem dL_law_399 : decode cL_law 399 = .ok (.i2l, 1) := by decide +kernel
theorem dL_law_400 : decode cL_law 400 = .ok (.lcmp, 1) := by decide +kernel
theorem dL_law_401 : decode cL_law 401 = .ok (.ifCond .eq 5, 3) := by decide +kernel
theorem dL_law_404 : decode cL_law 404 = .ok (.iconst 0, 1) := by decide +kernel
theorem dL_law_405 : decode cL_law 405 = .ok (.ireturn, 1) := by decide +kernel
theorem dL_law_406 : decode cL_law 406 = .ok (.goto 2284, 3) := by decide +kernel
theorem dL_law_409 : decode cL_law 409 = .ok (.aload_n 1, 1) := by decide +kernel
theorem dL_law_410 : decode cL_law 410 = .ok (.invokevirtual 146, 3) := by decide +kernel
theorem dL_law_413 : decode cL_law 413 = .ok (.aload_n 2, 1) := by decide +kernel
theorem dL_law_414 : decode cL_law 414 = .ok (.invokevirtual 149, 3) := by decide +kernel
theorem dL_law_417 : decode cL_law 417 = .ok (.if_icmp .eq 2273, 3) := by decide +kernel
theorem dL_law_420 : decode cL_law 420 = .ok (.iconst 0, 1) := by decide +kernel
theorem dL_law_421 : decode cL_law 421 = .ok (.ireturn, 1) := by decide +kernel
theorem dL_law_422 : decode cL_law 422 = .ok (.aload_n 1, 1) := by decide +kernel
theorem dL_law_423 : decode cL_law 423 = .ok (.aload_n 0, 1) := by decide +kernel
theorem dL_law_424 : decode cL_law 424 = .ok (.iload 4, 2) := by decide +kernel
theorem dL_law_426 : decode cL_law 426 = .ok (.iconst 1, 1) := by decide +kernel
theorem dL_law_427 : decode cL_law 427 = .ok (.iadd, 1) := by decide +kernel
theorem dL_law_428 : decode cL_law 428 = .ok (.iaload, 1) := by decide +kernel
theorem dL_law_429 : decode cL_law 429 = .ok (.aload_n 3, 1) := by decide +kernel
theorem dL_law_430 : decode cL_law 430 = .ok (.invokestatic 150, 3) := by decide +kernel
theorem dL_law_433 : decode cL_law 433 = .ok (.istore 5, 2) := by decide +kernel
theorem dL_law_435 : decode cL_law 435 = .ok (.aload_n 2, 1) := by decide +kernel
theorem dL_law_436 : decode cL_law 436 = .ok (.aload_n 0, 1) := by decide +kernel
theorem dL_law_437 : decode cL_law 437 = .ok (.iload 4, 2) := by decide +kernel
theorem dL_law_439 : decode cL_law 439 = .ok (.iconst 1, 1) := by decide +kernel
theorem dL_law_440 : decode cL_law 440 = .ok (.iadd, 1) := by decide +kernel
theorem dL_law_441 : decode cL_law 441 = .ok (.iaload, 1) := by decide +kernel
theorem dL_law_442 : decode cL_law 442 = .ok (.invokevirtual 152, 3) := by decide +kernel
theorem dL_law_445 : decode cL_law 445 = .ok (.istore 6, 2) := by decide +kernel
theorem dL_law_447 : decode cL_law 447 = .ok (.aload_n 2, 1) := by decide +kernel
theorem dL_law_448 : decode cL_law 448 = .ok (.invokevirtual 139, 3) := by decide +kernel
theorem dL_law_451 : decode cL_law 451 = .ok (.iload 5, 2) := by decide +kernel
theorem dL_law_453 : decode cL_law 453 = .ok (.if_icmp .eq 5, 3) := by decide +kernel
theorem dL_law_456 : decode cL_law 456 = .ok (.iconst 0, 1) := by decide +kernel
theorem dL_law_457 : decode cL_law 457 = .ok (.ireturn, 1) := by decide +kernel
theorem dL_law_458 : decode cL_law 458 = .ok (.iload 5, 2) := by decide +kernel
theorem dL_law_460 : decode cL_law 460 = .ok (.ifCond .ne 15, 3) := by decide +kernel
theorem dL_law_463 : decode cL_law 463 = .ok (.aload_n 3, 1) := by decide +kernel
theorem dL_law_464 : decode cL_law 464 = .ok (.iconst 0, 1) := by decide +kernel
theorem dL_law_465 : decode cL_law 465 = .ok (.laload, 1) := by decide +kernel
theorem dL_law_466 : decode cL_law 466 = .ok (.iload 6, 2) := by decide +kernel
theorem dL_law_468 : decode cL_law 468 = .ok (.i2l, 1) := by decide +kernel
theorem dL_law_469 : decode cL_law 469 = .ok (.lcmp, 1) := by decide +kernel
theorem dL_law_470 : decode cL_law 470 = .ok (.ifCond .eq 5, 3) := by decide +kernel
theorem dL_law_473 : decode cL_law 473 = .ok (.iconst 0, 1) := by decide +kernel
theorem dL_law_474 : decode cL_law 474 = .ok (.ireturn, 1) := by decide +kernel
theorem dL_law_475 : decode cL_law 475 = .ok (.goto 2215, 3) := by decide +kernel
theorem dL_law_478 : decode cL_law 478 = .ok (.aload_n 1, 1) := by decide +kernel
theorem dL_law_479 : decode cL_law 479 = .ok (.aload_n 0, 1) := by decide +kernel
theorem dL_law_480 : decode cL_law 480 = .ok (.iload 4, 2) := by decide +kernel
theorem dL_law_482 : decode cL_law 482 = .ok (.iconst 1, 1) := by decide +kernel
theorem dL_law_483 : decode cL_law 483 = .ok (.iadd, 1) := by decide +kernel
theorem dL_law_484 : decode cL_law 484 = .ok (.iaload, 1) := by decide +kernel
theorem dL_law_485 : decode cL_law 485 = .ok (.aload_n 3, 1) := by decide +kernel
theorem dL_law_486 : decode cL_law 486 = .ok (.invokestatic 153, 3) := by decide +kernel
theorem dL_law_489 : decode cL_law 489 = .ok (.istore 5, 2) := by decide +kernel
theorem dL_law_491 : decode cL_law 491 = .ok (.aload_n 2, 1) := by decide +kernel
theorem dL_law_492 : decode cL_law 492 = .ok (.aload_n 0, 1) := by decide +kernel
theorem dL_law_493 : decode cL_law 493 = .ok (.iload 4, 2) := by decide +kernel
theorem dL_law_495 : decode cL_law 495 = .ok (.iconst 1, 1) := by decide +kernel
theorem dL_law_496 : decode cL_law 496 = .ok (.iadd, 1) := by decide +kernel
theorem dL_law_497 : decode cL_law 497 = .ok (.iaload, 1) := by decide +kernel
theorem dL_law_498 : decode cL_law 498 = .ok (.invokevirtual 155, 3) := by decide +kernel
theorem dL_law_501 : decode cL_law 501 = .ok (.istore 6, 2) := by decide +kernel
theorem dL_law_503 : decode cL_law 503 = .ok (.aload_n 2, 1) := by decide +kernel
theorem dL_law_504 : decode cL_law 504 = .ok (.invokevirtual 139, 3) := by decide +kernel
theorem dL_law_507 : decode cL_law 507 = .ok (.iload 5, 2) := by decide +kernel
theorem dL_law_509 : decode cL_law 509 = .ok (.if_icmp .eq 5, 3) := by decide +kernel
theorem dL_law_512 : decode cL_law 512 = .ok (.iconst 0, 1) := by decide +kernel
theorem dL_law_513 : decode cL_law 513 = .ok (.ireturn, 1) := by decide +kernel
theorem dL_law_514 : decode cL_law 514 = .ok (.iload 5, 2) := by decide +kernel
theorem dL_law_516 : decode cL_law 516 = .ok (.ifCond .ne 15, 3) := by decide +kernel
theorem dL_law_519 : decode cL_law 519 = .ok (.aload_n 3, 1) := by decide +kernel
theorem dL_law_520 : decode cL_law 520 = .ok (.iconst 0, 1) := by decide +kernel
theorem dL_law_521 : decode cL_law 521 = .ok (.laload, 1) := by decide +kernel
theorem dL_law_522 : decode cL_law 522 = .ok (.iload 6, 2) := by decide +kernel
theorem dL_law_524 : decode cL_law 524 = .ok (.i2l, 1) := by decide +kernel
theorem dL_law_525 : decode cL_law 525 = .ok (.lcmp, 1) := by decide +kernel
theorem dL_law_526 : decode cL_law 526 = .ok (.ifCond .eq 5, 3) := by decide +kernel
theorem dL_law_529 : decode cL_law 529 = .ok (.iconst 0, 1) := by decide +kernel
theorem dL_law_530 : decode cL_law 530 = .ok (.ireturn, 1) := by decide +kernel
theorem dL_law_531 : decode cL_law 531 = .ok (.goto 2159, 3) := by decide +kernel
theorem dL_law_534 : decode cL_law 534 = .ok (.aload_n 1, 1) := by decide +kernel
theorem dL_law_535 : decode cL_law 535 = .ok (.aload_n 0, 1) := by decide +kernel
theorem dL_law_536 : decode cL_law 536 = .ok (.iload 4, 2) := by decide +kernel
theorem dL_law_538 : decode cL_law 538 = .ok (.iconst 1, 1) := by decide +kernel
theorem dL_law_539 : decode cL_law 539 = .ok (.iadd, 1) := by decide +kernel
theorem dL_law_540 : decode cL_law 540 = .ok (.iaload, 1) := by decide +kernel
theorem dL_law_541 : decode cL_law 541 = .ok (.aload_n 3, 1) := by decide +kernel
theorem dL_law_542 : decode cL_law 542 = .ok (.invokestatic 156, 3) := by decide +kernel
theorem dL_law_545 : decode cL_law 545 = .ok (.istore 5, 2) := by decide +kernel
theorem dL_law_547 : decode cL_law 547 = .ok (.aload_n 2, 1) := by decide +kernel
theorem dL_law_548 : decode cL_law 548 = .ok (.aload_n 0, 1) := by decide +kernel
theorem dL_law_549 : decode cL_law 549 = .ok (.iload 4, 2) := by decide +kernel
theorem dL_law_551 : decode cL_law 551 = .ok (.iconst 1, 1) := by decide +kernel
theorem dL_law_552 : decode cL_law 552 = .ok (.iadd, 1) := by decide +kernel
theorem dL_law_553 : decode cL_law 553 = .ok (.iaload, 1) := by decide +kernel
theorem dL_law_554 : decode cL_law 554 = .ok (.invokevirtual 158, 3) := by decide +kernel
theorem dL_law_557 : decode cL_law 557 = .ok (.istore 6, 2) := by decide +kernel
theorem dL_law_559 : decode cL_law 559 = .ok (.aload_n 2, 1) := by decide +kernel
theorem dL_law_560 : decode cL_law 560 = .ok (.invokevirtual 139, 3) := by decide +kernel
theorem dL_law_563 : decode cL_law 563 = .ok (.iload 5, 2) := by decide +kernel
theorem dL_law_565 : decode cL_law 565 = .ok (.if_icmp .eq 5, 3) := by decide +kernel
theorem dL_law_568 : decode cL_law 568 = .ok (.iconst 0, 1) := by decide +kernel
theorem dL_law_569 : decode cL_law 569 = .ok (.ireturn, 1) := by decide +kernel
theorem dL_law_570 : decode cL_law 570 = .ok (.iload 5, 2) := by decide +kernel
theorem dL_law_572 : decode cL_law 572 = .ok (.ifCond .ne 15, 3) := by decide +kernel
theorem dL_law_575 : decode cL_law 575 = .ok (.aload_n 3, 1) := by decide +kernel
theorem dL_law_576 : decode cL_law 576 = .ok (.iconst 0, 1) := by decide +kernel
theorem dL_law_577 : decode cL_law 577 = .ok (.laload, 1) := by decide +kernel
theorem dL_law_578 : decode cL_law 578 = .ok (.iload 6, 2) := by decide +kernel
theorem dL_law_580 : decode cL_law 580 = .ok (.i2l, 1) := by decide +kernel
theorem dL_law_581 : decode cL_law 581 = .ok (.lcmp, 1) := by decide +kernel
theorem dL_law_582 : decode cL_law 582 = .ok (.ifCond .eq 5, 3) := by decide +kernel
theorem dL_law_585 : decode cL_law 585 = .ok (.iconst 0, 1) := by decide +kernel
theorem dL_law_586 : decode cL_law 586 = .ok (.ireturn, 1) := by decide +kernel
theorem dL_law_587 : decode cL_law 587 = .ok (.goto 2103, 3) := by decide +kernel
theorem dL_law_590 : decode cL_law 590 = .ok (.aload_n 1, 1) := by decide +kernel
theorem dL_law_591 : decode cL_law 591 = .ok (.aload_n 0, 1) := by decide +kernel
theorem dL_law_592 : decode cL_law 592 = .ok (.iload 4, 2) := by decide +kernel
theorem dL_law_594 : decode cL_law 594 = .ok (.iconst 1, 1) := by decide +kernel
theorem dL_law_595 : decode cL_law 595 = .ok (.iadd, 1) := by decide +kernel
theorem dL_law_596 : decode cL_law 596 = .ok (.iaload, 1) := by decide +kernel
theorem dL_law_597 : decode cL_law 597 = .ok (.aload_n 3, 1) := by decide +kernel
theorem dL_law_598 : decode cL_law 598 = .ok (.invokestatic 159, 3) := by decide +kernel
theorem dL_law_601 : decode cL_law 601 = .ok (.istore 5, 2) := by decide +kernel
theorem dL_law_603 : decode cL_law 603 = .ok (.aload_n 2, 1) := by decide +kernel
theorem dL_law_604 : decode cL_law 604 = .ok (.aload_n 0, 1) := by decide +kernel
theorem dL_law_605 : decode cL_law 605 = .ok (.iload 4, 2) := by decide +kernel
theorem dL_law_607 : decode cL_law 607 = .ok (.iconst 1, 1) := by decide +kernel
theorem dL_law_608 : decode cL_law 608 = .ok (.iadd, 1) := by decide +kernel
theorem dL_law_609 : decode cL_law 609 = .ok (.iaload, 1) := by decide +kernel
theorem dL_law_610 : decode cL_law 610 = .ok (.invokevirtual 161, 3) := by decide +kernel
theorem dL_law_613 : decode cL_law 613 = .ok (.istore 6, 2) := by decide +kernel
theorem dL_law_615 : decode cL_law 615 = .ok (.aload_n 2, 1) := by decide +kernel
theorem dL_law_616 : decode cL_law 616 = .ok (.invokevirtual 139, 3) := by decide +kernel
theorem dL_law_619 : decode cL_law 619 = .ok (.iload 5, 2) := by decide +kernel
theorem dL_law_621 : decode cL_law 621 = .ok (.if_icmp .eq 5, 3) := by decide +kernel
theorem dL_law_624 : decode cL_law 624 = .ok (.iconst 0, 1) := by decide +kernel
theorem dL_law_625 : decode cL_law 625 = .ok (.ireturn, 1) := by decide +kernel
theorem dL_law_626 : decode cL_law 626 = .ok (.iload 5, 2) := by decide +kernel
theorem dL_law_628 : decode cL_law 628 = .ok (.ifCond .ne 15, 3) := by decide +kernel
theorem dL_law_631 : decode cL_law 631 = .ok (.aload_n 3, 1) := by decide +kernel
theorem dL_law_632 : decode cL_law 632 = .ok (.iconst 0, 1) := by decide +kernel
theorem dL_law_633 : decode cL_law 633 = .ok (.laload, 1) := by decide +kernel
theorem dL_law_634 : decode cL_law 634 = .ok (.iload 6, 2) := by decide +kernel
theorem dL_law_636 : decode cL_law 636 = .ok (.i2l, 1) := by decide +kernel
theorem dL_law_637 : decode cL_law 637 = .ok (.lcmp, 1) := by decide +kernel
theorem dL_law_638 : decode cL_law 638 = .ok (.ifCond .eq 5, 3) := by decide +kernel
theorem dL_law_641 : decode cL_law 641 = .ok (.iconst 0, 1) := by decide +kernel
theorem dL_law_642 : decode cL_law 642 = .ok (.ireturn, 1) := by decide +kernel
theorem dL_law_643 : decode cL_law 643 = .ok (.goto 2047, 3) := by decide +kernel
theorem dL_law_646 : decode cL_law 646 = .ok (.aload_n 1, 1) := by decide +kernel
theorem dL_law_647 : decode cL_law 647 = .ok (.aload_n 0, 1) := by decide +kernel
theorem dL_law_648 : decode cL_law 648 = .ok (.iload 4, 2) := by decide +kernel
theorem dL_law_650 : decode cL_law 650 = .ok (.iconst 1, 1) := by decide +kernel
theorem dL_law_651 : decode cL_law 651 = .ok (.iadd, 1) := by decide +kernel
theorem dL_law_652 : decode cL_law 652 = .ok (.iaload, 1) := by decide +kernel
theorem dL_law_653 : decode cL_law 653 = .ok (.aload_n 0, 1) := by decide +kernel
theorem dL_law_654 : decode cL_law 654 = .ok (.iload 4, 2) := by decide +kernel
theorem dL_law_656 : decode cL_law 656 = .ok (.iconst 2, 1) := by decide +kernel
theorem dL_law_657 : decode cL_law 657 = .ok (.iadd, 1) := by decide +kernel
theorem dL_law_658 : decode cL_law 658 = .ok (.iaload, 1) := by decide +kernel
theorem dL_law_659 : decode cL_law 659 = .ok (.aload_n 3, 1) := by decide +kernel
theorem dL_law_660 : decode cL_law 660 = .ok (.invokestatic 162, 3) := by decide +kernel
theorem dL_law_663 : decode cL_law 663 = .ok (.istore 5, 2) := by decide +kernel
theorem dL_law_665 : decode cL_law 665 = .ok (.aload_n 2, 1) := by decide +kernel
theorem dL_law_666 : decode cL_law 666 = .ok (.aload_n 0, 1) := by decide +kernel
theorem dL_law_667 : decode cL_law 667 = .ok (.iload 4, 2) := by decide +kernel
theorem dL_law_669 : decode cL_law 669 = .ok (.iconst 1, 1) := by decide +kernel
theorem dL_law_670 : decode cL_law 670 = .ok (.iadd, 1) := by decide +kernel
theorem dL_law_671 : decode cL_law 671 = .ok (.iaload, 1) := by decide +kernel
theorem dL_law_672 : decode cL_law 672 = .ok (.aload_n 0, 1) := by decide +kernel
theorem dL_law_673 : decode cL_law 673 = .ok (.iload 4, 2) := by decide +kernel
theorem dL_law_675 : decode cL_law 675 = .ok (.iconst 2, 1) := by decide +kernel
theorem dL_law_676 : decode cL_law 676 = .ok (.iadd, 1) := by decide +kernel
theorem dL_law_677 : decode cL_law 677 = .ok (.iaload, 1) := by decide +kernel
theorem dL_law_678 : decode cL_law 678 = .ok (.invokevirtual 165, 3) := by decide +kernel
theorem dL_law_681 : decode cL_law 681 = .ok (.istore 6, 2) := by decide +kernel
theorem dL_law_683 : decode cL_law 683 = .ok (.aload_n 2, 1) := by decide +kernel
theorem dL_law_684 : decode cL_law 684 = .ok (.invokevirtual 139, 3) := by decide +kernel
theorem dL_law_687 : decode cL_law 687 = .ok (.iload 5, 2) := by decide +kernel
theorem dL_law_689 : decode cL_law 689 = .ok (.if_icmp .eq 5, 3) := by decide +kernel
theorem dL_law_692 : decode cL_law 692 = .ok (.iconst 0, 1) := by decide +kernel
theorem dL_law_693 : decode cL_law 693 = .ok (.ireturn, 1) := by decide +kernel
theorem dL_law_694 : decode cL_law 694 = .ok (.iload 5, 2) := by decide +kernel
theorem dL_law_696 : decode cL_law 696 = .ok (.ifCond .ne 15, 3) := by decide +kernel
theorem dL_law_699 : decode cL_law 699 = .ok (.aload_n 3, 1) := by decide +kernel
theorem dL_law_700 : decode cL_law 700 = .ok (.iconst 0, 1) := by decide +kernel
theorem dL_law_701 : decode cL_law 701 = .ok (.laload, 1) := by decide +kernel
theorem dL_law_702 : decode cL_law 702 = .ok (.iload 6, 2) := by decide +kernel
theorem dL_law_704 : decode cL_law 704 = .ok (.i2l, 1) := by decide +kernel
theorem dL_law_705 : decode cL_law 705 = .ok (.lcmp, 1) := by decide +kernel
theorem dL_law_706 : decode cL_law 706 = .ok (.ifCond .eq 5, 3) := by decide +kernel
theorem dL_law_709 : decode cL_law 709 = .ok (.iconst 0, 1) := by decide +kernel
theorem dL_law_710 : decode cL_law 710 = .ok (.ireturn, 1) := by decide +kernel
theorem dL_law_711 : decode cL_law 711 = .ok (.goto 1979, 3) := by decide +kernel
theorem dL_law_714 : decode cL_law 714 = .ok (.aload_n 1, 1) := by decide +kernel
theorem dL_law_715 : decode cL_law 715 = .ok (.aload_n 0, 1) := by decide +kernel
theorem dL_law_716 : decode cL_law 716 = .ok (.iload 4, 2) := by decide +kernel
theorem dL_law_718 : decode cL_law 718 = .ok (.iconst 1, 1) := by decide +kernel
theorem dL_law_719 : decode cL_law 719 = .ok (.iadd, 1) := by decide +kernel
theorem dL_law_720 : decode cL_law 720 = .ok (.iaload, 1) := by decide +kernel
theorem dL_law_721 : decode cL_law 721 = .ok (.aload_n 0, 1) := by decide +kernel
theorem dL_law_722 : decode cL_law 722 = .ok (.iload 4, 2) := by decide +kernel
theorem dL_law_724 : decode cL_law 724 = .ok (.iconst 2, 1) := by decide +kernel
theorem dL_law_725 : decode cL_law 725 = .ok (.iadd, 1) := by decide +kernel
theorem dL_law_726 : decode cL_law 726 = .ok (.iaload, 1) := by decide +kernel
theorem dL_law_727 : decode cL_law 727 = .ok (.aload_n 3, 1) := by decide +kernel
theorem dL_law_728 : decode cL_law 728 = .ok (.invokestatic 166, 3) := by decide +kernel
theorem dL_law_731 : decode cL_law 731 = .ok (.istore 5, 2) := by decide +kernel
theorem dL_law_733 : decode cL_law 733 = .ok (.aload_n 2, 1) := by decide +kernel
theorem dL_law_734 : decode cL_law 734 = .ok (.aload_n 0, 1) := by decide +kernel
theorem dL_law_735 : decode cL_law 735 = .ok (.iload 4, 2) := by decide +kernel
theorem dL_law_737 : decode cL_law 737 = .ok (.iconst 1, 1) := by decide +kernel
theorem dL_law_738 : decode cL_law 738 = .ok (.iadd, 1) := by decide +kernel
theorem dL_law_739 : decode cL_law 739 = .ok (.iaload, 1) := by decide +kernel
theorem dL_law_740 : decode cL_law 740 = .ok (.aload_n 0, 1) := by decide +kernel
theorem dL_law_741 : decode cL_law 741 = .ok (.iload 4, 2) := by decide +kernel
theorem dL_law_743 : decode cL_law 743 = .ok (.iconst 2, 1) := by decide +kernel
theorem dL_law_744 : decode cL_law 744 = .ok (.iadd, 1) := by decide +kernel
theorem dL_law_745 : decode cL_law 745 = .ok (.iaload, 1) := by decide +kernel
theorem dL_law_746 : decode cL_law 746 = .ok (.invokevirtual 168, 3) := by decide +kernel
theorem dL_law_749 : decode cL_law 749 = .ok (.istore 6, 2) := by decide +kernel
theorem dL_law_751 : decode cL_law 751 = .ok (.aload_n 2, 1) := by decide +kernel
theorem dL_law_752 : decode cL_law 752 = .ok (.invokevirtual 139, 3) := by decide +kernel
theorem dL_law_755 : decode cL_law 755 = .ok (.iload 5, 2) := by decide +kernel
theorem dL_law_757 : decode cL_law 757 = .ok (.if_icmp .eq 5, 3) := by decide +kernel
theorem dL_law_760 : decode cL_law 760 = .ok (.iconst 0, 1) := by decide +kernel
theorem dL_law_761 : decode cL_law 761 = .ok (.ireturn, 1) := by decide +kernel
theorem dL_law_762 : decode cL_law 762 = .ok (.iload 5, 2) := by decide +kernel
theorem dL_law_764 : decode cL_law 764 = .ok (.ifCond .ne 15, 3) := by decide +kernel
theorem dL_law_767 : decode cL_law 767 = .ok (.aload_n 3, 1) := by decide +kernel
theorem dL_law_768 : decode cL_law 768 = .ok (.iconst 0, 1) := by decide +kernel
theorem dL_law_769 : decode cL_law 769 = .ok (.laload, 1) := by decide +kernel
theorem dL_law_770 : decode cL_law 770 = .ok (.iload 6, 2) := by decide +kernel
theorem dL_law_772 : decode cL_law 772 = .ok (.i2l, 1) := by decide +kernel
theorem dL_law_773 : decode cL_law 773 = .ok (.lcmp, 1) := by decide +kernel
theorem dL_law_774 : decode cL_law 774 = .ok (.ifCond .eq 5, 3) := by decide +kernel
theorem dL_law_777 : decode cL_law 777 = .ok (.iconst 0, 1) := by decide +kernel
theorem dL_law_778 : decode cL_law 778 = .ok (.ireturn, 1) := by decide +kernel
theorem dL_law_779 : decode cL_law 779 = .ok (.goto 1911, 3) := by decide +kernel
theorem dL_law_782 : decode cL_law 782 = .ok (.aload_n 1, 1) := by decide +kernel
theorem dL_law_783 : decode cL_law 783 = .ok (.aload_n 0, 1) := by decide +kernel
theorem dL_law_784 : decode cL_law 784 = .ok (.iload 4, 2) := by decide +kernel
theorem dL_law_786 : decode cL_law 786 = .ok (.iconst 1, 1) := by decide +kernel
theorem dL_law_787 : decode cL_law 787 = .ok (.iadd, 1) := by decide +kernel
theorem dL_law_788 : decode cL_law 788 = .ok (.iaload, 1) := by decide +kernel
theorem dL_law_789 : decode cL_law 789 = .ok (.aload_n 0, 1) := by decide +kernel
theorem dL_law_790 : decode cL_law 790 = .ok (.iload 4, 2) := by decide +kernel
theorem dL_law_792 : decode cL_law 792 = .ok (.iconst 2, 1) := by decide +kernel
theorem dL_law_793 : decode cL_law 793 = .ok (.iadd, 1) := by decide +kernel
theorem dL_law_794 : decode cL_law 794 = .ok (.iaload, 1) := by decide +kernel
theorem dL_law_795 : decode cL_law 795 = .ok (.aload_n 3, 1) := by decide +kernel
theorem dL_law_796 : decode cL_law 796 = .ok (.invokestatic 169, 3) := by decide +kernel
theorem dL_law_799 : decode cL_law 799 = .ok (.istore 5, 2) := by decide +kernel
theorem dL_law_801 : decode cL_law 801 = .ok (.aload_n 2, 1) := by decide +kernel
theorem dL_law_802 : decode cL_law 802 = .ok (.aload_n 0, 1) := by decide +kernel
theorem dL_law_803 : decode cL_law 803 = .ok (.iload 4, 2) := by decide +kernel
theorem dL_law_805 : decode cL_law 805 = .ok (.iconst 1, 1) := by decide +kernel
theorem dL_law_806 : decode cL_law 806 = .ok (.iadd, 1) := by decide +kernel
theorem dL_law_807 : decode cL_law 807 = .ok (.iaload, 1) := by decide +kernel
theorem dL_law_808 : decode cL_law 808 = .ok (.aload_n 0, 1) := by decide +kernel
theorem dL_law_809 : decode cL_law 809 = .ok (.iload 4, 2) := by decide +kernel
theorem dL_law_811 : decode cL_law 811 = .ok (.iconst 2, 1) := by decide +kernel
theorem dL_law_812 : decode cL_law 812 = .ok (.iadd, 1) := by decide +kernel
theorem dL_law_813 : decode cL_law 813 = .ok (.iaload, 1) := by decide +kernel
theorem dL_law_814 : decode cL_law 814 = .ok (.invokevirtual 171, 3) := by decide +kernel
theorem dL_law_817 : decode cL_law 817 = .ok (.istore 6, 2) := by decide +kernel
theorem dL_law_819 : decode cL_law 819 = .ok (.aload_n 2, 1) := by decide +kernel
theorem dL_law_820 : decode cL_law 820 = .ok (.invokevirtual 139, 3) := by decide +kernel
theorem dL_law_823 : decode cL_law 823 = .ok (.iload 5, 2) := by decide +kernel
theorem dL_law_825 : decode cL_law 825 = .ok (.if_icmp .eq 5, 3) := by decide +kernel
theorem dL_law_828 : decode cL_law 828 = .ok (.iconst 0, 1) := by decide +kernel
theorem dL_law_829 : decode cL_law 829 = .ok (.ireturn, 1) := by decide +kernel
theorem dL_law_830 : decode cL_law 830 = .ok (.iload 5, 2) := by decide +kernel
theorem dL_law_832 : decode cL_law 832 = .ok (.ifCond .ne 15, 3) := by decide +kernel
theorem dL_law_835 : decode cL_law 835 = .ok (.aload_n 3, 1) := by decide +kernel
theorem dL_law_836 : decode cL_law 836 = .ok (.iconst 0, 1) := by decide +kernel
theorem dL_law_837 : decode cL_law 837 = .ok (.laload, 1) := by decide +kernel
theorem dL_law_838 : decode cL_law 838 = .ok (.iload 6, 2) := by decide +kernel
theorem dL_law_840 : decode cL_law 840 = .ok (.i2l, 1) := by decide +kernel
theorem dL_law_841 : decode cL_law 841 = .ok (.lcmp, 1) := by decide +kernel
theorem dL_law_842 : decode cL_law 842 = .ok (.ifCond .eq 5, 3) := by decide +kernel
theorem dL_law_845 : decode cL_law 845 = .ok (.iconst 0, 1) := by decide +kernel
theorem dL_law_846 : decode cL_law 846 = .ok (.ireturn, 1) := by decide +kernel
theorem dL_law_847 : decode cL_law 847 = .ok (.goto 1843, 3) := by decide +kernel
theorem dL_law_850 : decode cL_law 850 = .ok (.aload_n 1, 1) := by decide +kernel
theorem dL_law_851 : decode cL_law 851 = .ok (.aload_n 0, 1) := by decide +kernel
theorem dL_law_852 : decode cL_law 852 = .ok (.iload 4, 2) := by decide +kernel
theorem dL_law_854 : decode cL_law 854 = .ok (.iconst 1, 1) := by decide +kernel
theorem dL_law_855 : decode cL_law 855 = .ok (.iadd, 1) := by decide +kernel
theorem dL_law_856 : decode cL_law 856 = .ok (.iaload, 1) := by decide +kernel
theorem dL_law_857 : decode cL_law 857 = .ok (.aload_n 0, 1) := by decide +kernel
theorem dL_law_858 : decode cL_law 858 = .ok (.iload 4, 2) := by decide +kernel
theorem dL_law_860 : decode cL_law 860 = .ok (.iconst 2, 1) := by decide +kernel
theorem dL_law_861 : decode cL_law 861 = .ok (.iadd, 1) := by decide +kernel
theorem dL_law_862 : decode cL_law 862 = .ok (.iaload, 1) := by decide +kernel
theorem dL_law_863 : decode cL_law 863 = .ok (.aload_n 3, 1) := by decide +kernel
theorem dL_law_864 : decode cL_law 864 = .ok (.invokestatic 172, 3) := by decide +kernel
theorem dL_law_867 : decode cL_law 867 = .ok (.istore 5, 2) := by decide +kernel
theorem dL_law_869 : decode cL_law 869 = .ok (.aload_n 2, 1) := by decide +kernel
theorem dL_law_870 : decode cL_law 870 = .ok (.aload_n 0, 1) := by decide +kernel
theorem dL_law_871 : decode cL_law 871 = .ok (.iload 4, 2) := by decide +kernel
theorem dL_law_873 : decode cL_law 873 = .ok (.iconst 1, 1) := by decide +kernel
theorem dL_law_874 : decode cL_law 874 = .ok (.iadd, 1) := by decide +kernel
theorem dL_law_875 : decode cL_law 875 = .ok (.iaload, 1) := by decide +kernel
theorem dL_law_876 : decode cL_law 876 = .ok (.aload_n 0, 1) := by decide +kernel
theorem dL_law_877 : decode cL_law 877 = .ok (.iload 4, 2) := by decide +kernel
theorem dL_law_879 : decode cL_law 879 = .ok (.iconst 2, 1) := by decide +kernel
theorem dL_law_880 : decode cL_law 880 = .ok (.iadd, 1) := by decide +kernel
theorem dL_law_881 : decode cL_law 881 = .ok (.iaload, 1) := by decide +kernel
theorem dL_law_882 : decode cL_law 882 = .ok (.invokevirtual 174, 3) := by decide +kernel
theorem dL_law_885 : decode cL_law 885 = .ok (.istore 6, 2) := by decide +kernel
theorem dL_law_887 : decode cL_law 887 = .ok (.aload_n 2, 1) := by decide +kernel
theorem dL_law_888 : decode cL_law 888 = .ok (.invokevirtual 139, 3) := by decide +kernel
theorem dL_law_891 : decode cL_law 891 = .ok (.iload 5, 2) := by decide +kernel
theorem dL_law_893 : decode cL_law 893 = .ok (.if_icmp .eq 5, 3) := by decide +kernel
theorem dL_law_896 : decode cL_law 896 = .ok (.iconst 0, 1) := by decide +kernel
theorem dL_law_897 : decode cL_law 897 = .ok (.ireturn, 1) := by decide +kernel
theorem dL_law_898 : decode cL_law 898 = .ok (.iload 5, 2) := by decide +kernel
theorem dL_law_900 : decode cL_law 900 = .ok (.ifCond .ne 15, 3) := by decide +kernel
theorem dL_law_903 : decode cL_law 903 = .ok (.aload_n 3, 1) := by decide +kernel
theorem dL_law_904 : decode cL_law 904 = .ok (.iconst 0, 1) := by decide +kernel
theorem dL_law_905 : decode cL_law 905 = .ok (.laload, 1) := by decide +kernel
theorem dL_law_906 : decode cL_law 906 = .ok (.iload 6, 2) := by decide +kernel
theorem dL_law_908 : decode cL_law 908 = .ok (.i2l, 1) := by decide +kernel
theorem dL_law_909 : decode cL_law 909 = .ok (.lcmp, 1) := by decide +kernel
