theorem dX11_whyNot_46 : decode cX11_whyNot 46 = .ok (.ifCond .le 7, 3) := by decide +kernel
theorem dX11_whyNot_49 : decode cX11_whyNot 49 = .ok (.iconst 1, 1) := by decide +kernel
theorem dX11_whyNot_50 : decode cX11_whyNot 50 = .ok (.goto 4, 3) := by decide +kernel
theorem dX11_whyNot_53 : decode cX11_whyNot 53 = .ok (.iconst 0, 1) := by decide +kernel
theorem dX11_whyNot_54 : decode cX11_whyNot 54 = .ok (.iadd, 1) := by decide +kernel
theorem dX11_whyNot_55 : decode cX11_whyNot 55 = .ok (.istore_n 2, 1) := by decide +kernel
theorem dX11_whyNot_56 : decode cX11_whyNot 56 = .ok (.iinc 3 1, 3) := by decide +kernel
theorem dX11_whyNot_59 : decode cX11_whyNot 59 = .ok (.goto (-43), 3) := by decide +kernel
theorem dX11_whyNot_62 : decode cX11_whyNot 62 = .ok (.iload_n 2, 1) := by decide +kernel
theorem dX11_whyNot_63 : decode cX11_whyNot 63 = .ok (.ifCond .ne 5, 3) := by decide +kernel
theorem dX11_whyNot_66 : decode cX11_whyNot 66 = .ok (.iconst 2, 1) := by decide +kernel
theorem dX11_whyNot_67 : decode cX11_whyNot 67 = .ok (.ireturn, 1) := by decide +kernel
theorem dX11_whyNot_68 : decode cX11_whyNot 68 = .ok (.iconst 0, 1) := by decide +kernel
theorem dX11_whyNot_69 : decode cX11_whyNot 69 = .ok (.istore_n 3, 1) := by decide +kernel
theorem dX11_whyNot_70 : decode cX11_whyNot 70 = .ok (.iload_n 3, 1) := by decide +kernel
theorem dX11_whyNot_71 : decode cX11_whyNot 71 = .ok (.aload_n 0, 1) := by decide +kernel
theorem dX11_whyNot_72 : decode cX11_whyNot 72 = .ok (.getfield 214, 3) := by decide +kernel
theorem dX11_whyNot_75 : decode cX11_whyNot 75 = .ok (.if_icmp .ge 27, 3) := by decide +kernel
theorem dX11_whyNot_78 : decode cX11_whyNot 78 = .ok (.aload_n 0, 1) := by decide +kernel
theorem dX11_whyNot_79 : decode cX11_whyNot 79 = .ok (.getfield 41, 3) := by decide +kernel
theorem dX11_whyNot_82 : decode cX11_whyNot 82 = .ok (.aload_n 0, 1) := by decide +kernel
theorem dX11_whyNot_83 : decode cX11_whyNot 83 = .ok (.getfield 50, 3) := by decide +kernel
theorem dX11_whyNot_86 : decode cX11_whyNot 86 = .ok (.iload_n 3, 1) := by decide +kernel
theorem dX11_whyNot_87 : decode cX11_whyNot 87 = .ok (.iaload, 1) := by decide +kernel
theorem dX11_whyNot_88 : decode cX11_whyNot 88 = .ok (.aaload, 1) := by decide +kernel
theorem dX11_whyNot_89 : decode cX11_whyNot 89 = .ok (.iload_n 1, 1) := by decide +kernel
theorem dX11_whyNot_90 : decode cX11_whyNot 90 = .ok (.iaload, 1) := by decide +kernel
theorem dX11_whyNot_91 : decode cX11_whyNot 91 = .ok (.ifCond .ne 5, 3) := by decide +kernel
theorem dX11_whyNot_94 : decode cX11_whyNot 94 = .ok (.iconst 3, 1) := by decide +kernel
theorem dX11_whyNot_95 : decode cX11_whyNot 95 = .ok (.ireturn, 1) := by decide +kernel
theorem dX11_whyNot_96 : decode cX11_whyNot 96 = .ok (.iinc 3 1, 3) := by decide +kernel
theorem dX11_whyNot_99 : decode cX11_whyNot 99 = .ok (.goto (-29), 3) := by decide +kernel
theorem dX11_whyNot_102 : decode cX11_whyNot 102 = .ok (.aload_n 0, 1) := by decide +kernel
theorem dX11_whyNot_103 : decode cX11_whyNot 103 = .ok (.getfield 229, 3) := by decide +kernel
theorem dX11_whyNot_106 : decode cX11_whyNot 106 = .ok (.ifCond .eq 5, 3) := by decide +kernel
theorem dX11_whyNot_109 : decode cX11_whyNot 109 = .ok (.iconst 3, 1) := by decide +kernel
theorem dX11_whyNot_110 : decode cX11_whyNot 110 = .ok (.ireturn, 1) := by decide +kernel
theorem dX11_whyNot_111 : decode cX11_whyNot 111 = .ok (.iconst 0, 1) := by decide +kernel
theorem dX11_whyNot_112 : decode cX11_whyNot 112 = .ok (.istore_n 3, 1) := by decide +kernel
theorem dX11_whyNot_113 : decode cX11_whyNot 113 = .ok (.iload_n 3, 1) := by decide +kernel
theorem dX11_whyNot_114 : decode cX11_whyNot 114 = .ok (.aload_n 0, 1) := by decide +kernel
theorem dX11_whyNot_115 : decode cX11_whyNot 115 = .ok (.getfield 217, 3) := by decide +kernel
theorem dX11_whyNot_118 : decode cX11_whyNot 118 = .ok (.if_icmp .ge 27, 3) := by decide +kernel
theorem dX11_whyNot_121 : decode cX11_whyNot 121 = .ok (.aload_n 0, 1) := by decide +kernel
theorem dX11_whyNot_122 : decode cX11_whyNot 122 = .ok (.getfield 41, 3) := by decide +kernel
theorem dX11_whyNot_125 : decode cX11_whyNot 125 = .ok (.aload_n 0, 1) := by decide +kernel
theorem dX11_whyNot_126 : decode cX11_whyNot 126 = .ok (.getfield 53, 3) := by decide +kernel
theorem dX11_whyNot_129 : decode cX11_whyNot 129 = .ok (.iload_n 3, 1) := by decide +kernel
theorem dX11_whyNot_130 : decode cX11_whyNot 130 = .ok (.iaload, 1) := by decide +kernel
theorem dX11_whyNot_131 : decode cX11_whyNot 131 = .ok (.aaload, 1) := by decide +kernel
theorem dX11_whyNot_132 : decode cX11_whyNot 132 = .ok (.iload_n 1, 1) := by decide +kernel
theorem dX11_whyNot_133 : decode cX11_whyNot 133 = .ok (.iaload, 1) := by decide +kernel
theorem dX11_whyNot_134 : decode cX11_whyNot 134 = .ok (.ifCond .le 5, 3) := by decide +kernel
theorem dX11_whyNot_137 : decode cX11_whyNot 137 = .ok (.iconst 4, 1) := by decide +kernel
theorem dX11_whyNot_138 : decode cX11_whyNot 138 = .ok (.ireturn, 1) := by decide +kernel
theorem dX11_whyNot_139 : decode cX11_whyNot 139 = .ok (.iinc 3 1, 3) := by decide +kernel
theorem dX11_whyNot_142 : decode cX11_whyNot 142 = .ok (.goto (-29), 3) := by decide +kernel
theorem dX11_whyNot_145 : decode cX11_whyNot 145 = .ok (.iconst 0, 1) := by decide +kernel
theorem dX11_whyNot_146 : decode cX11_whyNot 146 = .ok (.istore_n 3, 1) := by decide +kernel
theorem dX11_whyNot_147 : decode cX11_whyNot 147 = .ok (.iload_n 3, 1) := by decide +kernel
theorem dX11_whyNot_148 : decode cX11_whyNot 148 = .ok (.aload_n 0, 1) := by decide +kernel
theorem dX11_whyNot_149 : decode cX11_whyNot 149 = .ok (.getfield 220, 3) := by decide +kernel
theorem dX11_whyNot_152 : decode cX11_whyNot 152 = .ok (.if_icmp .ge 20, 3) := by decide +kernel
theorem dX11_whyNot_155 : decode cX11_whyNot 155 = .ok (.aload_n 0, 1) := by decide +kernel
theorem dX11_whyNot_156 : decode cX11_whyNot 156 = .ok (.iload_n 3, 1) := by decide +kernel
theorem dX11_whyNot_157 : decode cX11_whyNot 157 = .ok (.iload_n 1, 1) := by decide +kernel
theorem dX11_whyNot_158 : decode cX11_whyNot 158 = .ok (.invokevirtual 281, 3) := by decide +kernel
theorem dX11_whyNot_161 : decode cX11_whyNot 161 = .ok (.ifCond .ne 5, 3) := by decide +kernel
theorem dX11_whyNot_164 : decode cX11_whyNot 164 = .ok (.iconst 5, 1) := by decide +kernel
theorem dX11_whyNot_165 : decode cX11_whyNot 165 = .ok (.ireturn, 1) := by decide +kernel
theorem dX11_whyNot_166 : decode cX11_whyNot 166 = .ok (.iinc 3 1, 3) := by decide +kernel
theorem dX11_whyNot_169 : decode cX11_whyNot 169 = .ok (.goto (-22), 3) := by decide +kernel
theorem dX11_whyNot_172 : decode cX11_whyNot 172 = .ok (.iconst 0, 1) := by decide +kernel
theorem dX11_whyNot_173 : decode cX11_whyNot 173 = .ok (.ireturn, 1) := by decide +kernel
theorem dX11_distance_0 : decode cX11_distance 0 = .ok (.sipush 150, 3) := by decide +kernel
theorem dX11_distance_3 : decode cX11_distance 3 = .ok (.istore 4, 2) := by decide +kernel
theorem dX11_distance_5 : decode cX11_distance 5 = .ok (.iconst (-1), 1) := by decide +kernel
theorem dX11_distance_6 : decode cX11_distance 6 = .ok (.istore 5, 2) := by decide +kernel
theorem dX11_distance_8 : decode cX11_distance 8 = .ok (.iconst (-1), 1) := by decide +kernel
theorem dX11_distance_9 : decode cX11_distance 9 = .ok (.istore 6, 2) := by decide +kernel
theorem dX11_distance_11 : decode cX11_distance 11 = .ok (.iconst 0, 1) := by decide +kernel
theorem dX11_distance_12 : decode cX11_distance 12 = .ok (.istore 7, 2) := by decide +kernel
theorem dX11_distance_14 : decode cX11_distance 14 = .ok (.iload 7, 2) := by decide +kernel
theorem dX11_distance_16 : decode cX11_distance 16 = .ok (.aload_n 0, 1) := by decide +kernel
theorem dX11_distance_17 : decode cX11_distance 17 = .ok (.getfield 28, 3) := by decide +kernel
theorem dX11_distance_20 : decode cX11_distance 20 = .ok (.iload_n 3, 1) := by decide +kernel
theorem dX11_distance_21 : decode cX11_distance 21 = .ok (.iaload, 1) := by decide +kernel
theorem dX11_distance_22 : decode cX11_distance 22 = .ok (.if_icmp .ge 82, 3) := by decide +kernel
theorem dX11_distance_25 : decode cX11_distance 25 = .ok (.aload_n 0, 1) := by decide +kernel
theorem dX11_distance_26 : decode cX11_distance 26 = .ok (.getfield 25, 3) := by decide +kernel
theorem dX11_distance_29 : decode cX11_distance 29 = .ok (.iload_n 3, 1) := by decide +kernel
theorem dX11_distance_30 : decode cX11_distance 30 = .ok (.aaload, 1) := by decide +kernel
theorem dX11_distance_31 : decode cX11_distance 31 = .ok (.iload 7, 2) := by decide +kernel
theorem dX11_distance_33 : decode cX11_distance 33 = .ok (.iaload, 1) := by decide +kernel
theorem dX11_distance_34 : decode cX11_distance 34 = .ok (.iload_n 1, 1) := by decide +kernel
theorem dX11_distance_35 : decode cX11_distance 35 = .ok (.if_icmp .ne 7, 3) := by decide +kernel
theorem dX11_distance_38 : decode cX11_distance 38 = .ok (.iload 7, 2) := by decide +kernel
theorem dX11_distance_40 : decode cX11_distance 40 = .ok (.istore 5, 2) := by decide +kernel
theorem dX11_distance_42 : decode cX11_distance 42 = .ok (.aload_n 0, 1) := by decide +kernel
theorem dX11_distance_43 : decode cX11_distance 43 = .ok (.getfield 25, 3) := by decide +kernel
theorem dX11_distance_46 : decode cX11_distance 46 = .ok (.iload_n 3, 1) := by decide +kernel
theorem dX11_distance_47 : decode cX11_distance 47 = .ok (.aaload, 1) := by decide +kernel
theorem dX11_distance_48 : decode cX11_distance 48 = .ok (.iload 7, 2) := by decide +kernel
theorem dX11_distance_50 : decode cX11_distance 50 = .ok (.iaload, 1) := by decide +kernel
theorem dX11_distance_51 : decode cX11_distance 51 = .ok (.iload_n 2, 1) := by decide +kernel
theorem dX11_distance_52 : decode cX11_distance 52 = .ok (.if_icmp .ne 7, 3) := by decide +kernel
theorem dX11_distance_55 : decode cX11_distance 55 = .ok (.iload 7, 2) := by decide +kernel
theorem dX11_distance_57 : decode cX11_distance 57 = .ok (.istore 6, 2) := by decide +kernel
theorem dX11_distance_59 : decode cX11_distance 59 = .ok (.iload 5, 2) := by decide +kernel
theorem dX11_distance_61 : decode cX11_distance 61 = .ok (.iconst (-1), 1) := by decide +kernel
theorem dX11_distance_62 : decode cX11_distance 62 = .ok (.if_icmp .eq 36, 3) := by decide +kernel
theorem dX11_distance_65 : decode cX11_distance 65 = .ok (.iload 6, 2) := by decide +kernel
theorem dX11_distance_67 : decode cX11_distance 67 = .ok (.iconst (-1), 1) := by decide +kernel
theorem dX11_distance_68 : decode cX11_distance 68 = .ok (.if_icmp .eq 30, 3) := by decide +kernel
theorem dX11_distance_71 : decode cX11_distance 71 = .ok (.iload 4, 2) := by decide +kernel
theorem dX11_distance_73 : decode cX11_distance 73 = .ok (.iload 5, 2) := by decide +kernel
theorem dX11_distance_75 : decode cX11_distance 75 = .ok (.iload 6, 2) := by decide +kernel
theorem dX11_distance_77 : decode cX11_distance 77 = .ok (.if_icmp .le 11, 3) := by decide +kernel
theorem dX11_distance_80 : decode cX11_distance 80 = .ok (.iload 5, 2) := by decide +kernel
theorem dX11_distance_82 : decode cX11_distance 82 = .ok (.iload 6, 2) := by decide +kernel
theorem dX11_distance_84 : decode cX11_distance 84 = .ok (.isub, 1) := by decide +kernel
theorem dX11_distance_85 : decode cX11_distance 85 = .ok (.goto 8, 3) := by decide +kernel
theorem dX11_distance_88 : decode cX11_distance 88 = .ok (.iload 6, 2) := by decide +kernel
theorem dX11_distance_90 : decode cX11_distance 90 = .ok (.iload 5, 2) := by decide +kernel
theorem dX11_distance_92 : decode cX11_distance 92 = .ok (.isub, 1) := by decide +kernel
theorem dX11_distance_93 : decode cX11_distance 93 = .ok (.invokestatic 236, 3) := by decide +kernel
theorem dX11_distance_96 : decode cX11_distance 96 = .ok (.istore 4, 2) := by decide +kernel
theorem dX11_distance_98 : decode cX11_distance 98 = .ok (.iinc 7 1, 3) := by decide +kernel
theorem dX11_distance_101 : decode cX11_distance 101 = .ok (.goto (-87), 3) := by decide +kernel
theorem dX11_distance_104 : decode cX11_distance 104 = .ok (.iload 4, 2) := by decide +kernel
theorem dX11_distance_106 : decode cX11_distance 106 = .ok (.ireturn, 1) := by decide +kernel
theorem dX11_behind_0 : decode cX11_behind 0 = .ok (.iload_n 1, 1) := by decide +kernel
theorem dX11_behind_1 : decode cX11_behind 1 = .ok (.iconst 1, 1) := by decide +kernel
theorem dX11_behind_2 : decode cX11_behind 2 = .ok (.iadd, 1) := by decide +kernel
theorem dX11_behind_3 : decode cX11_behind 3 = .ok (.aload_n 0, 1) := by decide +kernel
theorem dX11_behind_4 : decode cX11_behind 4 = .ok (.getfield 68, 3) := by decide +kernel
theorem dX11_behind_7 : decode cX11_behind 7 = .ok (.if_icmp .ne 9, 3) := by decide +kernel
theorem dX11_behind_10 : decode cX11_behind 10 = .ok (.iload_n 1, 1) := by decide +kernel
theorem dX11_behind_11 : decode cX11_behind 11 = .ok (.iconst 2, 1) := by decide +kernel
theorem dX11_behind_12 : decode cX11_behind 12 = .ok (.iadd, 1) := by decide +kernel
theorem dX11_behind_13 : decode cX11_behind 13 = .ok (.goto 6, 3) := by decide +kernel
theorem dX11_behind_16 : decode cX11_behind 16 = .ok (.iload_n 1, 1) := by decide +kernel
theorem dX11_behind_17 : decode cX11_behind 17 = .ok (.iconst 1, 1) := by decide +kernel
theorem dX11_behind_18 : decode cX11_behind 18 = .ok (.iadd, 1) := by decide +kernel
theorem dX11_behind_19 : decode cX11_behind 19 = .ok (.ireturn, 1) := by decide +kernel
theorem dX11_nearOf_0 : decode cX11_nearOf 0 = .ok (.iconst 0, 1) := by decide +kernel
theorem dX11_nearOf_1 : decode cX11_nearOf 1 = .ok (.istore_n 2, 1) := by decide +kernel
theorem dX11_nearOf_2 : decode cX11_nearOf 2 = .ok (.aload_n 0, 1) := by decide +kernel
theorem dX11_nearOf_3 : decode cX11_nearOf 3 = .ok (.getfield 68, 3) := by decide +kernel
theorem dX11_nearOf_6 : decode cX11_nearOf 6 = .ok (.ifCond .ne 7, 3) := by decide +kernel
theorem dX11_nearOf_9 : decode cX11_nearOf 9 = .ok (.iconst 1, 1) := by decide +kernel
theorem dX11_nearOf_10 : decode cX11_nearOf 10 = .ok (.goto 4, 3) := by decide +kernel
theorem dX11_nearOf_13 : decode cX11_nearOf 13 = .ok (.iconst 0, 1) := by decide +kernel
theorem dX11_nearOf_14 : decode cX11_nearOf 14 = .ok (.istore_n 3, 1) := by decide +kernel
theorem dX11_nearOf_15 : decode cX11_nearOf 15 = .ok (.aload_n 0, 1) := by decide +kernel
theorem dX11_nearOf_16 : decode cX11_nearOf 16 = .ok (.iload_n 3, 1) := by decide +kernel
theorem dX11_nearOf_17 : decode cX11_nearOf 17 = .ok (.invokevirtual 284, 3) := by decide +kernel
theorem dX11_nearOf_20 : decode cX11_nearOf 20 = .ok (.aload_n 0, 1) := by decide +kernel
theorem dX11_nearOf_21 : decode cX11_nearOf 21 = .ok (.getfield 211, 3) := by decide +kernel
theorem dX11_nearOf_24 : decode cX11_nearOf 24 = .ok (.if_icmp .ge 63, 3) := by decide +kernel
theorem dX11_nearOf_27 : decode cX11_nearOf 27 = .ok (.aload_n 0, 1) := by decide +kernel
theorem dX11_nearOf_28 : decode cX11_nearOf 28 = .ok (.aload_n 0, 1) := by decide +kernel
theorem dX11_nearOf_29 : decode cX11_nearOf 29 = .ok (.getfield 44, 3) := by decide +kernel
theorem dX11_nearOf_32 : decode cX11_nearOf 32 = .ok (.iload_n 3, 1) := by decide +kernel
theorem dX11_nearOf_33 : decode cX11_nearOf 33 = .ok (.iaload, 1) := by decide +kernel
theorem dX11_nearOf_34 : decode cX11_nearOf 34 = .ok (.aload_n 0, 1) := by decide +kernel
theorem dX11_nearOf_35 : decode cX11_nearOf 35 = .ok (.getfield 44, 3) := by decide +kernel
theorem dX11_nearOf_38 : decode cX11_nearOf 38 = .ok (.aload_n 0, 1) := by decide +kernel
theorem dX11_nearOf_39 : decode cX11_nearOf 39 = .ok (.iload_n 3, 1) := by decide +kernel
theorem dX11_nearOf_40 : decode cX11_nearOf 40 = .ok (.invokevirtual 284, 3) := by decide +kernel
theorem dX11_nearOf_43 : decode cX11_nearOf 43 = .ok (.iaload, 1) := by decide +kernel
theorem dX11_nearOf_44 : decode cX11_nearOf 44 = .ok (.iload_n 1, 1) := by decide +kernel
theorem dX11_nearOf_45 : decode cX11_nearOf 45 = .ok (.invokevirtual 287, 3) := by decide +kernel
theorem dX11_nearOf_48 : decode cX11_nearOf 48 = .ok (.istore 4, 2) := by decide +kernel
theorem dX11_nearOf_50 : decode cX11_nearOf 50 = .ok (.iload_n 2, 1) := by decide +kernel
theorem dX11_nearOf_51 : decode cX11_nearOf 51 = .ok (.iload 4, 2) := by decide +kernel
theorem dX11_nearOf_53 : decode cX11_nearOf 53 = .ok (.aload_n 0, 1) := by decide +kernel
theorem dX11_nearOf_54 : decode cX11_nearOf 54 = .ok (.getfield 226, 3) := by decide +kernel
theorem dX11_nearOf_57 : decode cX11_nearOf 57 = .ok (.if_icmp .gt 18, 3) := by decide +kernel
theorem dX11_nearOf_60 : decode cX11_nearOf 60 = .ok (.bipush 50, 2) := by decide +kernel
theorem dX11_nearOf_62 : decode cX11_nearOf 62 = .ok (.aload_n 0, 1) := by decide +kernel
theorem dX11_nearOf_63 : decode cX11_nearOf 63 = .ok (.getfield 226, 3) := by decide +kernel
theorem dX11_nearOf_66 : decode cX11_nearOf 66 = .ok (.iconst 1, 1) := by decide +kernel
theorem dX11_nearOf_67 : decode cX11_nearOf 67 = .ok (.iadd, 1) := by decide +kernel
theorem dX11_nearOf_68 : decode cX11_nearOf 68 = .ok (.iload 4, 2) := by decide +kernel
theorem dX11_nearOf_70 : decode cX11_nearOf 70 = .ok (.isub, 1) := by decide +kernel
theorem dX11_nearOf_71 : decode cX11_nearOf 71 = .ok (.imul, 1) := by decide +kernel
theorem dX11_nearOf_72 : decode cX11_nearOf 72 = .ok (.goto 4, 3) := by decide +kernel
theorem dX11_nearOf_75 : decode cX11_nearOf 75 = .ok (.iconst 0, 1) := by decide +kernel
theorem dX11_nearOf_76 : decode cX11_nearOf 76 = .ok (.iadd, 1) := by decide +kernel
theorem dX11_nearOf_77 : decode cX11_nearOf 77 = .ok (.istore_n 2, 1) := by decide +kernel
theorem dX11_nearOf_78 : decode cX11_nearOf 78 = .ok (.aload_n 0, 1) := by decide +kernel
theorem dX11_nearOf_79 : decode cX11_nearOf 79 = .ok (.iload_n 3, 1) := by decide +kernel
theorem dX11_nearOf_80 : decode cX11_nearOf 80 = .ok (.invokevirtual 284, 3) := by decide +kernel
theorem dX11_nearOf_83 : decode cX11_nearOf 83 = .ok (.istore_n 3, 1) := by decide +kernel
theorem dX11_nearOf_84 : decode cX11_nearOf 84 = .ok (.goto (-69), 3) := by decide +kernel
theorem dX11_nearOf_87 : decode cX11_nearOf 87 = .ok (.iload_n 2, 1) := by decide +kernel
theorem dX11_nearOf_88 : decode cX11_nearOf 88 = .ok (.ireturn, 1) := by decide +kernel
theorem dX11_pointsOf_0 : decode cX11_pointsOf 0 = .ok (.aload_n 0, 1) := by decide +kernel
theorem dX11_pointsOf_1 : decode cX11_pointsOf 1 = .ok (.getfield 41, 3) := by decide +kernel
theorem dX11_pointsOf_4 : decode cX11_pointsOf 4 = .ok (.aload_n 0, 1) := by decide +kernel
theorem dX11_pointsOf_5 : decode cX11_pointsOf 5 = .ok (.getfield 44, 3) := by decide +kernel
theorem dX11_pointsOf_8 : decode cX11_pointsOf 8 = .ok (.iload_n 1, 1) := by decide +kernel
theorem dX11_pointsOf_9 : decode cX11_pointsOf 9 = .ok (.iaload, 1) := by decide +kernel
theorem dX11_pointsOf_10 : decode cX11_pointsOf 10 = .ok (.aaload, 1) := by decide +kernel
theorem dX11_pointsOf_11 : decode cX11_pointsOf 11 = .ok (.iload_n 2, 1) := by decide +kernel
theorem dX11_pointsOf_12 : decode cX11_pointsOf 12 = .ok (.iaload, 1) := by decide +kernel
theorem dX11_pointsOf_13 : decode cX11_pointsOf 13 = .ok (.ifCond .ne 7, 3) := by decide +kernel
theorem dX11_pointsOf_16 : decode cX11_pointsOf 16 = .ok (.iconst 0, 1) := by decide +kernel
theorem dX11_pointsOf_17 : decode cX11_pointsOf 17 = .ok (.goto 32, 3) := by decide +kernel
theorem dX11_pointsOf_20 : decode cX11_pointsOf 20 = .ok (.aload_n 0, 1) := by decide +kernel
theorem dX11_pointsOf_21 : decode cX11_pointsOf 21 = .ok (.getfield 47, 3) := by decide +kernel
theorem dX11_pointsOf_24 : decode cX11_pointsOf 24 = .ok (.iload_n 1, 1) := by decide +kernel
theorem dX11_pointsOf_25 : decode cX11_pointsOf 25 = .ok (.iaload, 1) := by decide +kernel
theorem dX11_pointsOf_26 : decode cX11_pointsOf 26 = .ok (.aload_n 0, 1) := by decide +kernel
theorem dX11_pointsOf_27 : decode cX11_pointsOf 27 = .ok (.aload_n 0, 1) := by decide +kernel
theorem dX11_pointsOf_28 : decode cX11_pointsOf 28 = .ok (.getfield 44, 3) := by decide +kernel
theorem dX11_pointsOf_31 : decode cX11_pointsOf 31 = .ok (.iload_n 1, 1) := by decide +kernel
theorem dX11_pointsOf_32 : decode cX11_pointsOf 32 = .ok (.iaload, 1) := by decide +kernel
theorem dX11_pointsOf_33 : decode cX11_pointsOf 33 = .ok (.invokevirtual 290, 3) := by decide +kernel
theorem dX11_pointsOf_36 : decode cX11_pointsOf 36 = .ok (.imul, 1) := by decide +kernel
theorem dX11_pointsOf_37 : decode cX11_pointsOf 37 = .ok (.aload_n 0, 1) := by decide +kernel
theorem dX11_pointsOf_38 : decode cX11_pointsOf 38 = .ok (.aload_n 0, 1) := by decide +kernel
theorem dX11_pointsOf_39 : decode cX11_pointsOf 39 = .ok (.getfield 44, 3) := by decide +kernel
theorem dX11_pointsOf_42 : decode cX11_pointsOf 42 = .ok (.iload_n 1, 1) := by decide +kernel
theorem dX11_pointsOf_43 : decode cX11_pointsOf 43 = .ok (.iaload, 1) := by decide +kernel
theorem dX11_pointsOf_44 : decode cX11_pointsOf 44 = .ok (.iload_n 2, 1) := by decide +kernel
theorem dX11_pointsOf_45 : decode cX11_pointsOf 45 = .ok (.invokevirtual 258, 3) := by decide +kernel
theorem dX11_pointsOf_48 : decode cX11_pointsOf 48 = .ok (.imul, 1) := by decide +kernel
theorem dX11_pointsOf_49 : decode cX11_pointsOf 49 = .ok (.ireturn, 1) := by decide +kernel
theorem dX11_scoreOf_0 : decode cX11_scoreOf 0 = .ok (.aload_n 0, 1) := by decide +kernel
theorem dX11_scoreOf_1 : decode cX11_scoreOf 1 = .ok (.iload_n 1, 1) := by decide +kernel
theorem dX11_scoreOf_2 : decode cX11_scoreOf 2 = .ok (.invokevirtual 293, 3) := by decide +kernel
theorem dX11_scoreOf_5 : decode cX11_scoreOf 5 = .ok (.istore_n 2, 1) := by decide +kernel
theorem dX11_scoreOf_6 : decode cX11_scoreOf 6 = .ok (.iconst 0, 1) := by decide +kernel
theorem dX11_scoreOf_7 : decode cX11_scoreOf 7 = .ok (.istore_n 3, 1) := by decide +kernel
theorem dX11_scoreOf_8 : decode cX11_scoreOf 8 = .ok (.iload_n 3, 1) := by decide +kernel
theorem dX11_scoreOf_9 : decode cX11_scoreOf 9 = .ok (.aload_n 0, 1) := by decide +kernel
theorem dX11_scoreOf_10 : decode cX11_scoreOf 10 = .ok (.getfield 211, 3) := by decide +kernel
theorem dX11_scoreOf_13 : decode cX11_scoreOf 13 = .ok (.if_icmp .ge 30, 3) := by decide +kernel
theorem dX11_scoreOf_16 : decode cX11_scoreOf 16 = .ok (.iload_n 2, 1) := by decide +kernel
theorem dX11_scoreOf_17 : decode cX11_scoreOf 17 = .ok (.iload_n 3, 1) := by decide +kernel
theorem dX11_scoreOf_18 : decode cX11_scoreOf 18 = .ok (.aload_n 0, 1) := by decide +kernel
theorem dX11_scoreOf_19 : decode cX11_scoreOf 19 = .ok (.getfield 68, 3) := by decide +kernel
theorem dX11_scoreOf_22 : decode cX11_scoreOf 22 = .ok (.if_icmp .ne 7, 3) := by decide +kernel
theorem dX11_scoreOf_25 : decode cX11_scoreOf 25 = .ok (.iconst 0, 1) := by decide +kernel
theorem dX11_scoreOf_26 : decode cX11_scoreOf 26 = .ok (.goto 9, 3) := by decide +kernel
theorem dX11_scoreOf_29 : decode cX11_scoreOf 29 = .ok (.aload_n 0, 1) := by decide +kernel
theorem dX11_scoreOf_30 : decode cX11_scoreOf 30 = .ok (.iload_n 3, 1) := by decide +kernel
theorem dX11_scoreOf_31 : decode cX11_scoreOf 31 = .ok (.iload_n 1, 1) := by decide +kernel
theorem dX11_scoreOf_32 : decode cX11_scoreOf 32 = .ok (.invokevirtual 296, 3) := by decide +kernel
theorem dX11_scoreOf_35 : decode cX11_scoreOf 35 = .ok (.iadd, 1) := by decide +kernel
theorem dX11_scoreOf_36 : decode cX11_scoreOf 36 = .ok (.istore_n 2, 1) := by decide +kernel
theorem dX11_scoreOf_37 : decode cX11_scoreOf 37 = .ok (.iinc 3 1, 3) := by decide +kernel
theorem dX11_scoreOf_40 : decode cX11_scoreOf 40 = .ok (.goto (-32), 3) := by decide +kernel
theorem dX11_scoreOf_43 : decode cX11_scoreOf 43 = .ok (.iload_n 2, 1) := by decide +kernel
theorem dX11_scoreOf_44 : decode cX11_scoreOf 44 = .ok (.ireturn, 1) := by decide +kernel
theorem dX11_answersAll_0 : decode cX11_answersAll 0 = .ok (.aload_n 0, 1) := by decide +kernel
theorem dX11_answersAll_1 : decode cX11_answersAll 1 = .ok (.iconst 0, 1) := by decide +kernel
theorem dX11_answersAll_2 : decode cX11_answersAll 2 = .ok (.putfield 299, 3) := by decide +kernel
theorem dX11_answersAll_5 : decode cX11_answersAll 5 = .ok (.iconst 0, 1) := by decide +kernel
theorem dX11_answersAll_6 : decode cX11_answersAll 6 = .ok (.istore_n 1, 1) := by decide +kernel
theorem dX11_answersAll_7 : decode cX11_answersAll 7 = .ok (.iload_n 1, 1) := by decide +kernel
theorem dX11_answersAll_8 : decode cX11_answersAll 8 = .ok (.aload_n 0, 1) := by decide +kernel
theorem dX11_answersAll_9 : decode cX11_answersAll 9 = .ok (.getfield 176, 3) := by decide +kernel
theorem dX11_answersAll_12 : decode cX11_answersAll 12 = .ok (.if_icmp .ge 105, 3) := by decide +kernel
theorem dX11_answersAll_15 : decode cX11_answersAll 15 = .ok (.aload_n 0, 1) := by decide +kernel
theorem dX11_answersAll_16 : decode cX11_answersAll 16 = .ok (.iload_n 1, 1) := by decide +kernel
theorem dX11_answersAll_17 : decode cX11_answersAll 17 = .ok (.invokevirtual 302, 3) := by decide +kernel
theorem dX11_answersAll_20 : decode cX11_answersAll 20 = .ok (.ifCond .le 6, 3) := by decide +kernel
theorem dX11_answersAll_23 : decode cX11_answersAll 23 = .ok (.goto 88, 3) := by decide +kernel
theorem dX11_answersAll_26 : decode cX11_answersAll 26 = .ok (.aload_n 0, 1) := by decide +kernel
theorem dX11_answersAll_27 : decode cX11_answersAll 27 = .ok (.iload_n 1, 1) := by decide +kernel
theorem dX11_answersAll_28 : decode cX11_answersAll 28 = .ok (.invokevirtual 305, 3) := by decide +kernel
theorem dX11_answersAll_31 : decode cX11_answersAll 31 = .ok (.istore_n 2, 1) := by decide +kernel
theorem dX11_answersAll_32 : decode cX11_answersAll 32 = .ok (.aload_n 0, 1) := by decide +kernel
theorem dX11_answersAll_33 : decode cX11_answersAll 33 = .ok (.getfield 299, 3) := by decide +kernel
theorem dX11_answersAll_36 : decode cX11_answersAll 36 = .ok (.istore_n 3, 1) := by decide +kernel
theorem dX11_answersAll_37 : decode cX11_answersAll 37 = .ok (.iload_n 3, 1) := by decide +kernel
theorem dX11_answersAll_38 : decode cX11_answersAll 38 = .ok (.ifCond .le 49, 3) := by decide +kernel
theorem dX11_answersAll_41 : decode cX11_answersAll 41 = .ok (.aload_n 0, 1) := by decide +kernel
theorem dX11_answersAll_42 : decode cX11_answersAll 42 = .ok (.getfield 74, 3) := by decide +kernel
theorem dX11_answersAll_45 : decode cX11_answersAll 45 = .ok (.iload_n 3, 1) := by decide +kernel
theorem dX11_answersAll_46 : decode cX11_answersAll 46 = .ok (.iconst 1, 1) := by decide +kernel
theorem dX11_answersAll_47 : decode cX11_answersAll 47 = .ok (.isub, 1) := by decide +kernel
theorem dX11_answersAll_48 : decode cX11_answersAll 48 = .ok (.iaload, 1) := by decide +kernel
theorem dX11_answersAll_49 : decode cX11_answersAll 49 = .ok (.iload_n 2, 1) := by decide +kernel
theorem dX11_answersAll_50 : decode cX11_answersAll 50 = .ok (.if_icmp .ge 37, 3) := by decide +kernel
theorem dX11_answersAll_53 : decode cX11_answersAll 53 = .ok (.aload_n 0, 1) := by decide +kernel
theorem dX11_answersAll_54 : decode cX11_answersAll 54 = .ok (.getfield 71, 3) := by decide +kernel
theorem dX11_answersAll_57 : decode cX11_answersAll 57 = .ok (.iload_n 3, 1) := by decide +kernel
theorem dX11_answersAll_58 : decode cX11_answersAll 58 = .ok (.aload_n 0, 1) := by decide +kernel
theorem dX11_answersAll_59 : decode cX11_answersAll 59 = .ok (.getfield 71, 3) := by decide +kernel
theorem dX11_answersAll_62 : decode cX11_answersAll 62 = .ok (.iload_n 3, 1) := by decide +kernel
theorem dX11_answersAll_63 : decode cX11_answersAll 63 = .ok (.iconst 1, 1) := by decide +kernel
theorem dX11_answersAll_64 : decode cX11_answersAll 64 = .ok (.isub, 1) := by decide +kernel
theorem dX11_answersAll_65 : decode cX11_answersAll 65 = .ok (.iaload, 1) := by decide +kernel
theorem dX11_answersAll_66 : decode cX11_answersAll 66 = .ok (.iastore, 1) := by decide +kernel
theorem dX11_answersAll_67 : decode cX11_answersAll 67 = .ok (.aload_n 0, 1) := by decide +kernel
theorem dX11_answersAll_68 : decode cX11_answersAll 68 = .ok (.getfield 74, 3) := by decide +kernel
theorem dX11_answersAll_71 : decode cX11_answersAll 71 = .ok (.iload_n 3, 1) := by decide +kernel
theorem dX11_answersAll_72 : decode cX11_answersAll 72 = .ok (.aload_n 0, 1) := by decide +kernel
theorem dX11_answersAll_73 : decode cX11_answersAll 73 = .ok (.getfield 74, 3) := by decide +kernel
theorem dX11_answersAll_76 : decode cX11_answersAll 76 = .ok (.iload_n 3, 1) := by decide +kernel
theorem dX11_answersAll_77 : decode cX11_answersAll 77 = .ok (.iconst 1, 1) := by decide +kernel
theorem dX11_answersAll_78 : decode cX11_answersAll 78 = .ok (.isub, 1) := by decide +kernel
theorem dX11_answersAll_79 : decode cX11_answersAll 79 = .ok (.iaload, 1) := by decide +kernel
theorem dX11_answersAll_80 : decode cX11_answersAll 80 = .ok (.iastore, 1) := by decide +kernel
theorem dX11_answersAll_81 : decode cX11_answersAll 81 = .ok (.iinc 3 (-1), 3) := by decide +kernel
theorem dX11_answersAll_84 : decode cX11_answersAll 84 = .ok (.goto (-47), 3) := by decide +kernel
theorem dX11_answersAll_87 : decode cX11_answersAll 87 = .ok (.aload_n 0, 1) := by decide +kernel
theorem dX11_answersAll_88 : decode cX11_answersAll 88 = .ok (.getfield 71, 3) := by decide +kernel
theorem dX11_answersAll_91 : decode cX11_answersAll 91 = .ok (.iload_n 3, 1) := by decide +kernel
theorem dX11_answersAll_92 : decode cX11_answersAll 92 = .ok (.iload_n 1, 1) := by decide +kernel
theorem dX11_answersAll_93 : decode cX11_answersAll 93 = .ok (.iastore, 1) := by decide +kernel
theorem dX11_answersAll_94 : decode cX11_answersAll 94 = .ok (.aload_n 0, 1) := by decide +kernel
theorem dX11_answersAll_95 : decode cX11_answersAll 95 = .ok (.getfield 74, 3) := by decide +kernel
theorem dX11_answersAll_98 : decode cX11_answersAll 98 = .ok (.iload_n 3, 1) := by decide +kernel
theorem dX11_answersAll_99 : decode cX11_answersAll 99 = .ok (.iload_n 2, 1) := by decide +kernel
theorem dX11_answersAll_100 : decode cX11_answersAll 100 = .ok (.iastore, 1) := by decide +kernel
theorem dX11_answersAll_101 : decode cX11_answersAll 101 = .ok (.aload_n 0, 1) := by decide +kernel
theorem dX11_answersAll_102 : decode cX11_answersAll 102 = .ok (.dup, 1) := by decide +kernel
theorem dX11_answersAll_103 : decode cX11_answersAll 103 = .ok (.getfield 299, 3) := by decide +kernel
theorem dX11_answersAll_106 : decode cX11_answersAll 106 = .ok (.iconst 1, 1) := by decide +kernel
theorem dX11_answersAll_107 : decode cX11_answersAll 107 = .ok (.iadd, 1) := by decide +kernel
theorem dX11_answersAll_108 : decode cX11_answersAll 108 = .ok (.putfield 299, 3) := by decide +kernel
theorem dX11_answersAll_111 : decode cX11_answersAll 111 = .ok (.iinc 1 1, 3) := by decide +kernel
theorem dX11_answersAll_114 : decode cX11_answersAll 114 = .ok (.goto (-107), 3) := by decide +kernel
theorem dX11_answersAll_117 : decode cX11_answersAll 117 = .ok (.return_, 1) := by decide +kernel
theorem dX11_lastOf_0 : decode cX11_lastOf 0 = .ok (.aload_n 0, 1) := by decide +kernel
theorem dX11_lastOf_1 : decode cX11_lastOf 1 = .ok (.getfield 77, 3) := by decide +kernel
theorem dX11_lastOf_4 : decode cX11_lastOf 4 = .ok (.iload_n 1, 1) := by decide +kernel
theorem dX11_lastOf_5 : decode cX11_lastOf 5 = .ok (.aaload, 1) := by decide +kernel
theorem dX11_lastOf_6 : decode cX11_lastOf 6 = .ok (.aload_n 0, 1) := by decide +kernel
theorem dX11_lastOf_7 : decode cX11_lastOf 7 = .ok (.getfield 86, 3) := by decide +kernel
theorem dX11_lastOf_10 : decode cX11_lastOf 10 = .ok (.iload_n 1, 1) := by decide +kernel
theorem dX11_lastOf_11 : decode cX11_lastOf 11 = .ok (.iaload, 1) := by decide +kernel
theorem dX11_lastOf_12 : decode cX11_lastOf 12 = .ok (.iload_n 2, 1) := by decide +kernel
theorem dX11_lastOf_13 : decode cX11_lastOf 13 = .ok (.iconst 1, 1) := by decide +kernel
theorem dX11_lastOf_14 : decode cX11_lastOf 14 = .ok (.iadd, 1) := by decide +kernel
theorem dX11_lastOf_15 : decode cX11_lastOf 15 = .ok (.aload_n 0, 1) := by decide +kernel
theorem dX11_lastOf_16 : decode cX11_lastOf 16 = .ok (.getfield 308, 3) := by decide +kernel
theorem dX11_lastOf_19 : decode cX11_lastOf 19 = .ok (.imul, 1) := by decide +kernel
theorem dX11_lastOf_20 : decode cX11_lastOf 20 = .ok (.invokestatic 236, 3) := by decide +kernel
theorem dX11_lastOf_23 : decode cX11_lastOf 23 = .ok (.iconst 1, 1) := by decide +kernel
theorem dX11_lastOf_24 : decode cX11_lastOf 24 = .ok (.isub, 1) := by decide +kernel
theorem dX11_lastOf_25 : decode cX11_lastOf 25 = .ok (.iaload, 1) := by decide +kernel
theorem dX11_lastOf_26 : decode cX11_lastOf 26 = .ok (.ireturn, 1) := by decide +kernel
theorem dX11_firstOf_0 : decode cX11_firstOf 0 = .ok (.aload_n 0, 1) := by decide +kernel
theorem dX11_firstOf_1 : decode cX11_firstOf 1 = .ok (.getfield 77, 3) := by decide +kernel
theorem dX11_firstOf_4 : decode cX11_firstOf 4 = .ok (.iload_n 1, 1) := by decide +kernel
theorem dX11_firstOf_5 : decode cX11_firstOf 5 = .ok (.aaload, 1) := by decide +kernel
theorem dX11_firstOf_6 : decode cX11_firstOf 6 = .ok (.iload_n 2, 1) := by decide +kernel
theorem dX11_firstOf_7 : decode cX11_firstOf 7 = .ok (.aload_n 0, 1) := by decide +kernel
theorem dX11_firstOf_8 : decode cX11_firstOf 8 = .ok (.getfield 308, 3) := by decide +kernel
theorem dX11_firstOf_11 : decode cX11_firstOf 11 = .ok (.imul, 1) := by decide +kernel
theorem dX11_firstOf_12 : decode cX11_firstOf 12 = .ok (.iaload, 1) := by decide +kernel
theorem dX11_firstOf_13 : decode cX11_firstOf 13 = .ok (.ireturn, 1) := by decide +kernel
theorem dX11_manyOf_0 : decode cX11_manyOf 0 = .ok (.aload_n 0, 1) := by decide +kernel
theorem dX11_manyOf_1 : decode cX11_manyOf 1 = .ok (.getfield 86, 3) := by decide +kernel
theorem dX11_manyOf_4 : decode cX11_manyOf 4 = .ok (.iload_n 1, 1) := by decide +kernel
theorem dX11_manyOf_5 : decode cX11_manyOf 5 = .ok (.iaload, 1) := by decide +kernel
theorem dX11_manyOf_6 : decode cX11_manyOf 6 = .ok (.iload_n 2, 1) := by decide +kernel
theorem dX11_manyOf_7 : decode cX11_manyOf 7 = .ok (.iconst 1, 1) := by decide +kernel
theorem dX11_manyOf_8 : decode cX11_manyOf 8 = .ok (.iadd, 1) := by decide +kernel
theorem dX11_manyOf_9 : decode cX11_manyOf 9 = .ok (.aload_n 0, 1) := by decide +kernel
theorem dX11_manyOf_10 : decode cX11_manyOf 10 = .ok (.getfield 308, 3) := by decide +kernel
theorem dX11_manyOf_13 : decode cX11_manyOf 13 = .ok (.imul, 1) := by decide +kernel
theorem dX11_manyOf_14 : decode cX11_manyOf 14 = .ok (.invokestatic 236, 3) := by decide +kernel
theorem dX11_manyOf_17 : decode cX11_manyOf 17 = .ok (.iload_n 2, 1) := by decide +kernel
theorem dX11_manyOf_18 : decode cX11_manyOf 18 = .ok (.aload_n 0, 1) := by decide +kernel
theorem dX11_manyOf_19 : decode cX11_manyOf 19 = .ok (.getfield 308, 3) := by decide +kernel
theorem dX11_manyOf_22 : decode cX11_manyOf 22 = .ok (.imul, 1) := by decide +kernel
theorem dX11_manyOf_23 : decode cX11_manyOf 23 = .ok (.isub, 1) := by decide +kernel
theorem dX11_manyOf_24 : decode cX11_manyOf 24 = .ok (.ireturn, 1) := by decide +kernel
theorem dX11_topOf_0 : decode cX11_topOf 0 = .ok (.iconst 0, 1) := by decide +kernel
theorem dX11_topOf_1 : decode cX11_topOf 1 = .ok (.istore_n 3, 1) := by decide +kernel
theorem dX11_topOf_2 : decode cX11_topOf 2 = .ok (.iload_n 2, 1) := by decide +kernel
theorem dX11_topOf_3 : decode cX11_topOf 3 = .ok (.aload_n 0, 1) := by decide +kernel
theorem dX11_topOf_4 : decode cX11_topOf 4 = .ok (.getfield 308, 3) := by decide +kernel
theorem dX11_topOf_7 : decode cX11_topOf 7 = .ok (.imul, 1) := by decide +kernel
theorem dX11_topOf_8 : decode cX11_topOf 8 = .ok (.istore 4, 2) := by decide +kernel
theorem dX11_topOf_10 : decode cX11_topOf 10 = .ok (.iload 4, 2) := by decide +kernel
theorem dX11_topOf_12 : decode cX11_topOf 12 = .ok (.iload_n 2, 1) := by decide +kernel
theorem dX11_topOf_13 : decode cX11_topOf 13 = .ok (.aload_n 0, 1) := by decide +kernel
theorem dX11_topOf_14 : decode cX11_topOf 14 = .ok (.getfield 308, 3) := by decide +kernel
theorem dX11_topOf_17 : decode cX11_topOf 17 = .ok (.imul, 1) := by decide +kernel
theorem dX11_topOf_18 : decode cX11_topOf 18 = .ok (.aload_n 0, 1) := by decide +kernel
theorem dX11_topOf_19 : decode cX11_topOf 19 = .ok (.iload_n 1, 1) := by decide +kernel
theorem dX11_topOf_20 : decode cX11_topOf 20 = .ok (.iload_n 2, 1) := by decide +kernel
theorem dX11_topOf_21 : decode cX11_topOf 21 = .ok (.invokevirtual 311, 3) := by decide +kernel
theorem dX11_topOf_24 : decode cX11_topOf 24 = .ok (.iadd, 1) := by decide +kernel
theorem dX11_topOf_25 : decode cX11_topOf 25 = .ok (.if_icmp .ge 23, 3) := by decide +kernel
theorem dX11_topOf_28 : decode cX11_topOf 28 = .ok (.iload_n 3, 1) := by decide +kernel
theorem dX11_topOf_29 : decode cX11_topOf 29 = .ok (.aload_n 0, 1) := by decide +kernel
theorem dX11_topOf_30 : decode cX11_topOf 30 = .ok (.getfield 80, 3) := by decide +kernel
theorem dX11_topOf_33 : decode cX11_topOf 33 = .ok (.iload_n 1, 1) := by decide +kernel
theorem dX11_topOf_34 : decode cX11_topOf 34 = .ok (.aaload, 1) := by decide +kernel
theorem dX11_topOf_35 : decode cX11_topOf 35 = .ok (.iload 4, 2) := by decide +kernel
theorem dX11_topOf_37 : decode cX11_topOf 37 = .ok (.iaload, 1) := by decide +kernel
theorem dX11_topOf_38 : decode cX11_topOf 38 = .ok (.invokestatic 261, 3) := by decide +kernel
theorem dX11_topOf_41 : decode cX11_topOf 41 = .ok (.istore_n 3, 1) := by decide +kernel
theorem dX11_topOf_42 : decode cX11_topOf 42 = .ok (.iinc 4 1, 3) := by decide +kernel
theorem dX11_topOf_45 : decode cX11_topOf 45 = .ok (.goto (-35), 3) := by decide +kernel
theorem dX11_topOf_48 : decode cX11_topOf 48 = .ok (.iload_n 3, 1) := by decide +kernel
theorem dX11_topOf_49 : decode cX11_topOf 49 = .ok (.ireturn, 1) := by decide +kernel
theorem dX11_blocksOfList_0 : decode cX11_blocksOfList 0 = .ok (.aload_n 0, 1) := by decide +kernel
theorem dX11_blocksOfList_1 : decode cX11_blocksOfList 1 = .ok (.getfield 86, 3) := by decide +kernel
theorem dX11_blocksOfList_4 : decode cX11_blocksOfList 4 = .ok (.iload_n 1, 1) := by decide +kernel
theorem dX11_blocksOfList_5 : decode cX11_blocksOfList 5 = .ok (.iaload, 1) := by decide +kernel
theorem dX11_blocksOfList_6 : decode cX11_blocksOfList 6 = .ok (.aload_n 0, 1) := by decide +kernel
theorem dX11_blocksOfList_7 : decode cX11_blocksOfList 7 = .ok (.getfield 308, 3) := by decide +kernel
theorem dX11_blocksOfList_10 : decode cX11_blocksOfList 10 = .ok (.invokestatic 314, 3) := by decide +kernel
theorem dX11_blocksOfList_13 : decode cX11_blocksOfList 13 = .ok (.ireturn, 1) := by decide +kernel
theorem dX11_lays_0 : decode cX11_lays 0 = .ok (.aload_n 0, 1) := by decide +kernel
theorem dX11_lays_1 : decode cX11_lays 1 = .ok (.getfield 44, 3) := by decide +kernel
theorem dX11_lays_4 : decode cX11_lays 4 = .ok (.iload_n 1, 1) := by decide +kernel
theorem dX11_lays_5 : decode cX11_lays 5 = .ok (.iaload, 1) := by decide +kernel
theorem dX11_lays_6 : decode cX11_lays 6 = .ok (.istore_n 2, 1) := by decide +kernel
theorem dX11_lays_7 : decode cX11_lays 7 = .ok (.aload_n 0, 1) := by decide +kernel
theorem dX11_lays_8 : decode cX11_lays 8 = .ok (.getfield 89, 3) := by decide +kernel
theorem dX11_lays_11 : decode cX11_lays 11 = .ok (.iload_n 1, 1) := by decide +kernel
theorem dX11_lays_12 : decode cX11_lays 12 = .ok (.aload_n 0, 1) := by decide +kernel
theorem dX11_lays_13 : decode cX11_lays 13 = .ok (.getfield 47, 3) := by decide +kernel
theorem dX11_lays_16 : decode cX11_lays 16 = .ok (.iload_n 1, 1) := by decide +kernel
theorem dX11_lays_17 : decode cX11_lays 17 = .ok (.iaload, 1) := by decide +kernel
theorem dX11_lays_18 : decode cX11_lays 18 = .ok (.aload_n 0, 1) := by decide +kernel
theorem dX11_lays_19 : decode cX11_lays 19 = .ok (.iload_n 2, 1) := by decide +kernel
theorem dX11_lays_20 : decode cX11_lays 20 = .ok (.invokevirtual 290, 3) := by decide +kernel
theorem dX11_lays_23 : decode cX11_lays 23 = .ok (.imul, 1) := by decide +kernel
theorem dX11_lays_24 : decode cX11_lays 24 = .ok (.iastore, 1) := by decide +kernel
theorem dX11_lays_25 : decode cX11_lays 25 = .ok (.aload_n 0, 1) := by decide +kernel
theorem dX11_lays_26 : decode cX11_lays 26 = .ok (.getfield 86, 3) := by decide +kernel
theorem dX11_lays_29 : decode cX11_lays 29 = .ok (.iload_n 1, 1) := by decide +kernel
theorem dX11_lays_30 : decode cX11_lays 30 = .ok (.aload_n 0, 1) := by decide +kernel
theorem dX11_lays_31 : decode cX11_lays 31 = .ok (.getfield 249, 3) := by decide +kernel
theorem dX11_lays_34 : decode cX11_lays 34 = .ok (.iastore, 1) := by decide +kernel
theorem dX11_lays_35 : decode cX11_lays 35 = .ok (.aload_n 0, 1) := by decide +kernel
theorem dX11_lays_36 : decode cX11_lays 36 = .ok (.getfield 92, 3) := by decide +kernel
theorem dX11_lays_39 : decode cX11_lays 39 = .ok (.iload_n 1, 1) := by decide +kernel
theorem dX11_lays_40 : decode cX11_lays 40 = .ok (.iconst 0, 1) := by decide +kernel
theorem dX11_lays_41 : decode cX11_lays 41 = .ok (.iastore, 1) := by decide +kernel
theorem dX11_lays_42 : decode cX11_lays 42 = .ok (.iconst 0, 1) := by decide +kernel
theorem dX11_lays_43 : decode cX11_lays 43 = .ok (.istore_n 3, 1) := by decide +kernel
theorem dX11_lays_44 : decode cX11_lays 44 = .ok (.iload_n 3, 1) := by decide +kernel
theorem dX11_lays_45 : decode cX11_lays 45 = .ok (.aload_n 0, 1) := by decide +kernel
theorem dX11_lays_46 : decode cX11_lays 46 = .ok (.getfield 249, 3) := by decide +kernel
theorem dX11_lays_49 : decode cX11_lays 49 = .ok (.if_icmp .ge 72, 3) := by decide +kernel
theorem dX11_lays_52 : decode cX11_lays 52 = .ok (.aload_n 0, 1) := by decide +kernel
theorem dX11_lays_53 : decode cX11_lays 53 = .ok (.getfield 77, 3) := by decide +kernel
theorem dX11_lays_56 : decode cX11_lays 56 = .ok (.iload_n 1, 1) := by decide +kernel
theorem dX11_lays_57 : decode cX11_lays 57 = .ok (.aaload, 1) := by decide +kernel
theorem dX11_lays_58 : decode cX11_lays 58 = .ok (.iload_n 3, 1) := by decide +kernel
theorem dX11_lays_59 : decode cX11_lays 59 = .ok (.aload_n 0, 1) := by decide +kernel
theorem dX11_lays_60 : decode cX11_lays 60 = .ok (.getfield 65, 3) := by decide +kernel
theorem dX11_lays_63 : decode cX11_lays 63 = .ok (.iload_n 3, 1) := by decide +kernel
theorem dX11_lays_64 : decode cX11_lays 64 = .ok (.iaload, 1) := by decide +kernel
theorem dX11_lays_65 : decode cX11_lays 65 = .ok (.iastore, 1) := by decide +kernel
theorem dX11_lays_66 : decode cX11_lays 66 = .ok (.aload_n 0, 1) := by decide +kernel
theorem dX11_lays_67 : decode cX11_lays 67 = .ok (.getfield 80, 3) := by decide +kernel
theorem dX11_lays_70 : decode cX11_lays 70 = .ok (.iload_n 1, 1) := by decide +kernel
theorem dX11_lays_71 : decode cX11_lays 71 = .ok (.aaload, 1) := by decide +kernel
theorem dX11_lays_72 : decode cX11_lays 72 = .ok (.iload_n 3, 1) := by decide +kernel
theorem dX11_lays_73 : decode cX11_lays 73 = .ok (.aload_n 0, 1) := by decide +kernel
theorem dX11_lays_74 : decode cX11_lays 74 = .ok (.iload_n 2, 1) := by decide +kernel
theorem dX11_lays_75 : decode cX11_lays 75 = .ok (.aload_n 0, 1) := by decide +kernel
theorem dX11_lays_76 : decode cX11_lays 76 = .ok (.getfield 65, 3) := by decide +kernel
theorem dX11_lays_79 : decode cX11_lays 79 = .ok (.iload_n 3, 1) := by decide +kernel
theorem dX11_lays_80 : decode cX11_lays 80 = .ok (.iaload, 1) := by decide +kernel
theorem dX11_lays_81 : decode cX11_lays 81 = .ok (.invokevirtual 258, 3) := by decide +kernel
theorem dX11_lays_84 : decode cX11_lays 84 = .ok (.iastore, 1) := by decide +kernel
theorem dX11_lays_85 : decode cX11_lays 85 = .ok (.aload_n 0, 1) := by decide +kernel
theorem dX11_lays_86 : decode cX11_lays 86 = .ok (.getfield 92, 3) := by decide +kernel
theorem dX11_lays_89 : decode cX11_lays 89 = .ok (.iload_n 1, 1) := by decide +kernel
theorem dX11_lays_90 : decode cX11_lays 90 = .ok (.aload_n 0, 1) := by decide +kernel
theorem dX11_lays_91 : decode cX11_lays 91 = .ok (.getfield 92, 3) := by decide +kernel
theorem dX11_lays_94 : decode cX11_lays 94 = .ok (.iload_n 1, 1) := by decide +kernel
theorem dX11_lays_95 : decode cX11_lays 95 = .ok (.iaload, 1) := by decide +kernel
theorem dX11_lays_96 : decode cX11_lays 96 = .ok (.aload_n 0, 1) := by decide +kernel
theorem dX11_lays_97 : decode cX11_lays 97 = .ok (.getfield 89, 3) := by decide +kernel
theorem dX11_lays_100 : decode cX11_lays 100 = .ok (.iload_n 1, 1) := by decide +kernel
theorem dX11_lays_101 : decode cX11_lays 101 = .ok (.iaload, 1) := by decide +kernel
theorem dX11_lays_102 : decode cX11_lays 102 = .ok (.aload_n 0, 1) := by decide +kernel
theorem dX11_lays_103 : decode cX11_lays 103 = .ok (.getfield 80, 3) := by decide +kernel
theorem dX11_lays_106 : decode cX11_lays 106 = .ok (.iload_n 1, 1) := by decide +kernel
theorem dX11_lays_107 : decode cX11_lays 107 = .ok (.aaload, 1) := by decide +kernel
theorem dX11_lays_108 : decode cX11_lays 108 = .ok (.iload_n 3, 1) := by decide +kernel
theorem dX11_lays_109 : decode cX11_lays 109 = .ok (.iaload, 1) := by decide +kernel
theorem dX11_lays_110 : decode cX11_lays 110 = .ok (.imul, 1) := by decide +kernel
theorem dX11_lays_111 : decode cX11_lays 111 = .ok (.invokestatic 261, 3) := by decide +kernel
theorem dX11_lays_114 : decode cX11_lays 114 = .ok (.iastore, 1) := by decide +kernel
theorem dX11_lays_115 : decode cX11_lays 115 = .ok (.iinc 3 1, 3) := by decide +kernel
theorem dX11_lays_118 : decode cX11_lays 118 = .ok (.goto (-74), 3) := by decide +kernel
theorem dX11_lays_121 : decode cX11_lays 121 = .ok (.iconst 0, 1) := by decide +kernel
theorem dX11_lays_122 : decode cX11_lays 122 = .ok (.istore_n 3, 1) := by decide +kernel
theorem dX11_lays_123 : decode cX11_lays 123 = .ok (.iload_n 3, 1) := by decide +kernel
theorem dX11_lays_124 : decode cX11_lays 124 = .ok (.bipush 32, 2) := by decide +kernel
theorem dX11_lays_126 : decode cX11_lays 126 = .ok (.if_icmp .ge 18, 3) := by decide +kernel
theorem dX11_lays_129 : decode cX11_lays 129 = .ok (.aload_n 0, 1) := by decide +kernel
theorem dX11_lays_130 : decode cX11_lays 130 = .ok (.getfield 83, 3) := by decide +kernel
theorem dX11_lays_133 : decode cX11_lays 133 = .ok (.iload_n 1, 1) := by decide +kernel
theorem dX11_lays_134 : decode cX11_lays 134 = .ok (.aaload, 1) := by decide +kernel
theorem dX11_lays_135 : decode cX11_lays 135 = .ok (.iload_n 3, 1) := by decide +kernel
theorem dX11_lays_136 : decode cX11_lays 136 = .ok (.iconst 0, 1) := by decide +kernel
theorem dX11_lays_137 : decode cX11_lays 137 = .ok (.iastore, 1) := by decide +kernel
theorem dX11_lays_138 : decode cX11_lays 138 = .ok (.iinc 3 1, 3) := by decide +kernel
theorem dX11_lays_141 : decode cX11_lays 141 = .ok (.goto (-18), 3) := by decide +kernel
theorem dX11_lays_144 : decode cX11_lays 144 = .ok (.aload_n 0, 1) := by decide +kernel
theorem dX11_lays_145 : decode cX11_lays 145 = .ok (.getfield 95, 3) := by decide +kernel
theorem dX11_lays_148 : decode cX11_lays 148 = .ok (.iload_n 1, 1) := by decide +kernel
theorem dX11_lays_149 : decode cX11_lays 149 = .ok (.iconst 0, 1) := by decide +kernel
theorem dX11_lays_150 : decode cX11_lays 150 = .ok (.iastore, 1) := by decide +kernel
theorem dX11_lays_151 : decode cX11_lays 151 = .ok (.aload_n 0, 1) := by decide +kernel
theorem dX11_lays_152 : decode cX11_lays 152 = .ok (.getfield 101, 3) := by decide +kernel
theorem dX11_lays_155 : decode cX11_lays 155 = .ok (.iload_n 1, 1) := by decide +kernel
theorem dX11_lays_156 : decode cX11_lays 156 = .ok (.iconst (-1), 1) := by decide +kernel
theorem dX11_lays_157 : decode cX11_lays 157 = .ok (.iastore, 1) := by decide +kernel
theorem dX11_lays_158 : decode cX11_lays 158 = .ok (.aload_n 0, 1) := by decide +kernel
theorem dX11_lays_159 : decode cX11_lays 159 = .ok (.getfield 107, 3) := by decide +kernel
theorem dX11_lays_162 : decode cX11_lays 162 = .ok (.iload_n 1, 1) := by decide +kernel
theorem dX11_lays_163 : decode cX11_lays 163 = .ok (.aload_n 0, 1) := by decide +kernel
theorem dX11_lays_164 : decode cX11_lays 164 = .ok (.getfield 249, 3) := by decide +kernel
theorem dX11_lays_167 : decode cX11_lays 167 = .ok (.ifCond .ne 7, 3) := by decide +kernel
theorem dX11_lays_170 : decode cX11_lays 170 = .ok (.iconst 1, 1) := by decide +kernel
theorem dX11_lays_171 : decode cX11_lays 171 = .ok (.goto 4, 3) := by decide +kernel
theorem dX11_lays_174 : decode cX11_lays 174 = .ok (.iconst 0, 1) := by decide +kernel
theorem dX11_lays_175 : decode cX11_lays 175 = .ok (.bastore, 1) := by decide +kernel
theorem dX11_lays_176 : decode cX11_lays 176 = .ok (.aload_n 0, 1) := by decide +kernel
theorem dX11_lays_177 : decode cX11_lays 177 = .ok (.getfield 98, 3) := by decide +kernel
theorem dX11_lays_180 : decode cX11_lays 180 = .ok (.iload_n 1, 1) := by decide +kernel
theorem dX11_lays_181 : decode cX11_lays 181 = .ok (.aload_n 0, 1) := by decide +kernel
theorem dX11_lays_182 : decode cX11_lays 182 = .ok (.getfield 249, 3) := by decide +kernel
theorem dX11_lays_185 : decode cX11_lays 185 = .ok (.ifCond .ne 7, 3) := by decide +kernel
theorem dX11_lays_188 : decode cX11_lays 188 = .ok (.iconst 0, 1) := by decide +kernel
theorem dX11_lays_189 : decode cX11_lays 189 = .ok (.goto 9, 3) := by decide +kernel
theorem dX11_lays_192 : decode cX11_lays 192 = .ok (.aload_n 0, 1) := by decide +kernel
theorem dX11_lays_193 : decode cX11_lays 193 = .ok (.getfield 65, 3) := by decide +kernel
theorem dX11_lays_196 : decode cX11_lays 196 = .ok (.iconst 0, 1) := by decide +kernel
theorem dX11_lays_197 : decode cX11_lays 197 = .ok (.iaload, 1) := by decide +kernel
theorem dX11_lays_198 : decode cX11_lays 198 = .ok (.iastore, 1) := by decide +kernel
theorem dX11_lays_199 : decode cX11_lays 199 = .ok (.return_, 1) := by decide +kernel
theorem dX11_dips_0 : decode cX11_dips 0 = .ok (.aload_n 0, 1) := by decide +kernel
theorem dX11_dips_1 : decode cX11_dips 1 = .ok (.getfield 107, 3) := by decide +kernel
theorem dX11_dips_4 : decode cX11_dips 4 = .ok (.iload_n 1, 1) := by decide +kernel
theorem dX11_dips_5 : decode cX11_dips 5 = .ok (.baload, 1) := by decide +kernel
theorem dX11_dips_6 : decode cX11_dips 6 = .ok (.ifCond .eq 4, 3) := by decide +kernel
theorem dX11_dips_9 : decode cX11_dips 9 = .ok (.return_, 1) := by decide +kernel
theorem dX11_dips_10 : decode cX11_dips 10 = .ok (.aload_n 0, 1) := by decide +kernel
theorem dX11_dips_11 : decode cX11_dips 11 = .ok (.iload_n 1, 1) := by decide +kernel
theorem dX11_dips_12 : decode cX11_dips 12 = .ok (.aload_n 0, 1) := by decide +kernel
theorem dX11_dips_13 : decode cX11_dips 13 = .ok (.getfield 95, 3) := by decide +kernel
theorem dX11_dips_16 : decode cX11_dips 16 = .ok (.iload_n 1, 1) := by decide +kernel
theorem dX11_dips_17 : decode cX11_dips 17 = .ok (.iaload, 1) := by decide +kernel
theorem dX11_dips_18 : decode cX11_dips 18 = .ok (.invokevirtual 317, 3) := by decide +kernel
theorem dX11_dips_21 : decode cX11_dips 21 = .ok (.iload_n 2, 1) := by decide +kernel
theorem dX11_dips_22 : decode cX11_dips 22 = .ok (.if_icmp .ge 35, 3) := by decide +kernel
theorem dX11_dips_25 : decode cX11_dips 25 = .ok (.aload_n 0, 1) := by decide +kernel
theorem dX11_dips_26 : decode cX11_dips 26 = .ok (.getfield 95, 3) := by decide +kernel
theorem dX11_dips_29 : decode cX11_dips 29 = .ok (.iload_n 1, 1) := by decide +kernel
theorem dX11_dips_30 : decode cX11_dips 30 = .ok (.dup2, 1) := by decide +kernel
theorem dX11_dips_31 : decode cX11_dips 31 = .ok (.iaload, 1) := by decide +kernel
theorem dX11_dips_32 : decode cX11_dips 32 = .ok (.iconst 1, 1) := by decide +kernel
theorem dX11_dips_33 : decode cX11_dips 33 = .ok (.iadd, 1) := by decide +kernel
theorem dX11_dips_34 : decode cX11_dips 34 = .ok (.iastore, 1) := by decide +kernel
theorem dX11_dips_35 : decode cX11_dips 35 = .ok (.aload_n 0, 1) := by decide +kernel
theorem dX11_dips_36 : decode cX11_dips 36 = .ok (.getfield 95, 3) := by decide +kernel
theorem dX11_dips_39 : decode cX11_dips 39 = .ok (.iload_n 1, 1) := by decide +kernel
theorem dX11_dips_40 : decode cX11_dips 40 = .ok (.iaload, 1) := by decide +kernel
theorem dX11_dips_41 : decode cX11_dips 41 = .ok (.aload_n 0, 1) := by decide +kernel
theorem dX11_dips_42 : decode cX11_dips 42 = .ok (.iload_n 1, 1) := by decide +kernel
theorem dX11_dips_43 : decode cX11_dips 43 = .ok (.invokevirtual 320, 3) := by decide +kernel
theorem dX11_dips_46 : decode cX11_dips 46 = .ok (.if_icmp .ne (-36), 3) := by decide +kernel
theorem dX11_dips_49 : decode cX11_dips 49 = .ok (.aload_n 0, 1) := by decide +kernel
theorem dX11_dips_50 : decode cX11_dips 50 = .ok (.getfield 107, 3) := by decide +kernel
theorem dX11_dips_53 : decode cX11_dips 53 = .ok (.iload_n 1, 1) := by decide +kernel
theorem dX11_dips_54 : decode cX11_dips 54 = .ok (.iconst 1, 1) := by decide +kernel
theorem dX11_dips_55 : decode cX11_dips 55 = .ok (.bastore, 1) := by decide +kernel
theorem dX11_dips_56 : decode cX11_dips 56 = .ok (.return_, 1) := by decide +kernel
theorem dX11_dips_57 : decode cX11_dips 57 = .ok (.aload_n 0, 1) := by decide +kernel
theorem dX11_dips_58 : decode cX11_dips 58 = .ok (.getfield 98, 3) := by decide +kernel
theorem dX11_dips_61 : decode cX11_dips 61 = .ok (.iload_n 1, 1) := by decide +kernel
theorem dX11_dips_62 : decode cX11_dips 62 = .ok (.iload_n 2, 1) := by decide +kernel
theorem dX11_dips_63 : decode cX11_dips 63 = .ok (.aload_n 0, 1) := by decide +kernel
theorem dX11_dips_64 : decode cX11_dips 64 = .ok (.iload_n 1, 1) := by decide +kernel
theorem dX11_dips_65 : decode cX11_dips 65 = .ok (.aload_n 0, 1) := by decide +kernel
theorem dX11_dips_66 : decode cX11_dips 66 = .ok (.getfield 95, 3) := by decide +kernel
theorem dX11_dips_69 : decode cX11_dips 69 = .ok (.iload_n 1, 1) := by decide +kernel
theorem dX11_dips_70 : decode cX11_dips 70 = .ok (.iaload, 1) := by decide +kernel
theorem dX11_dips_71 : decode cX11_dips 71 = .ok (.invokevirtual 323, 3) := by decide +kernel
theorem dX11_dips_74 : decode cX11_dips 74 = .ok (.invokestatic 261, 3) := by decide +kernel
theorem dX11_dips_77 : decode cX11_dips 77 = .ok (.iastore, 1) := by decide +kernel
theorem dX11_dips_78 : decode cX11_dips 78 = .ok (.return_, 1) := by decide +kernel
theorem dX11_seeks_0 : decode cX11_seeks 0 = .ok (.aload_n 0, 1) := by decide +kernel
theorem dX11_seeks_1 : decode cX11_seeks 1 = .ok (.dup, 1) := by decide +kernel
theorem dX11_seeks_2 : decode cX11_seeks 2 = .ok (.getfield 326, 3) := by decide +kernel
theorem dX11_seeks_5 : decode cX11_seeks 5 = .ok (.iconst 1, 1) := by decide +kernel
theorem dX11_seeks_6 : decode cX11_seeks 6 = .ok (.iadd, 1) := by decide +kernel
theorem dX11_seeks_7 : decode cX11_seeks 7 = .ok (.putfield 326, 3) := by decide +kernel
theorem dX11_seeks_10 : decode cX11_seeks 10 = .ok (.aload_n 0, 1) := by decide +kernel
theorem dX11_seeks_11 : decode cX11_seeks 11 = .ok (.getfield 98, 3) := by decide +kernel
theorem dX11_seeks_14 : decode cX11_seeks 14 = .ok (.iload_n 1, 1) := by decide +kernel
theorem dX11_seeks_15 : decode cX11_seeks 15 = .ok (.iaload, 1) := by decide +kernel
theorem dX11_seeks_16 : decode cX11_seeks 16 = .ok (.iload_n 2, 1) := by decide +kernel
theorem dX11_seeks_17 : decode cX11_seeks 17 = .ok (.if_icmp .ge 9, 3) := by decide +kernel
theorem dX11_seeks_20 : decode cX11_seeks 20 = .ok (.aload_n 0, 1) := by decide +kernel
theorem dX11_seeks_21 : decode cX11_seeks 21 = .ok (.iload_n 1, 1) := by decide +kernel
theorem dX11_seeks_22 : decode cX11_seeks 22 = .ok (.iload_n 2, 1) := by decide +kernel
theorem dX11_seeks_23 : decode cX11_seeks 23 = .ok (.invokevirtual 329, 3) := by decide +kernel
theorem dX11_seeks_26 : decode cX11_seeks 26 = .ok (.aload_n 0, 1) := by decide +kernel
theorem dX11_seeks_27 : decode cX11_seeks 27 = .ok (.getfield 107, 3) := by decide +kernel
theorem dX11_seeks_30 : decode cX11_seeks 30 = .ok (.iload_n 1, 1) := by decide +kernel
theorem dX11_seeks_31 : decode cX11_seeks 31 = .ok (.baload, 1) := by decide +kernel
theorem dX11_seeks_32 : decode cX11_seeks 32 = .ok (.ifCond .eq 4, 3) := by decide +kernel
theorem dX11_seeks_35 : decode cX11_seeks 35 = .ok (.return_, 1) := by decide +kernel
theorem dX11_seeks_36 : decode cX11_seeks 36 = .ok (.aload_n 0, 1) := by decide +kernel
theorem dX11_seeks_37 : decode cX11_seeks 37 = .ok (.getfield 95, 3) := by decide +kernel
theorem dX11_seeks_40 : decode cX11_seeks 40 = .ok (.iload_n 1, 1) := by decide +kernel
theorem dX11_seeks_41 : decode cX11_seeks 41 = .ok (.iaload, 1) := by decide +kernel
theorem dX11_seeks_42 : decode cX11_seeks 42 = .ok (.istore_n 3, 1) := by decide +kernel
theorem dX11_seeks_43 : decode cX11_seeks 43 = .ok (.aload_n 0, 1) := by decide +kernel
theorem dX11_seeks_44 : decode cX11_seeks 44 = .ok (.getfield 101, 3) := by decide +kernel
theorem dX11_seeks_47 : decode cX11_seeks 47 = .ok (.iload_n 1, 1) := by decide +kernel
theorem dX11_seeks_48 : decode cX11_seeks 48 = .ok (.iaload, 1) := by decide +kernel
theorem dX11_seeks_49 : decode cX11_seeks 49 = .ok (.iload_n 3, 1) := by decide +kernel
theorem dX11_seeks_50 : decode cX11_seeks 50 = .ok (.if_icmp .eq 47, 3) := by decide +kernel
theorem dX11_seeks_53 : decode cX11_seeks 53 = .ok (.aload_n 0, 1) := by decide +kernel
theorem dX11_seeks_54 : decode cX11_seeks 54 = .ok (.getfield 101, 3) := by decide +kernel
theorem dX11_seeks_57 : decode cX11_seeks 57 = .ok (.iload_n 1, 1) := by decide +kernel
theorem dX11_seeks_58 : decode cX11_seeks 58 = .ok (.iload_n 3, 1) := by decide +kernel
theorem dX11_seeks_59 : decode cX11_seeks 59 = .ok (.iastore, 1) := by decide +kernel
theorem dX11_seeks_60 : decode cX11_seeks 60 = .ok (.aload_n 0, 1) := by decide +kernel
theorem dX11_seeks_61 : decode cX11_seeks 61 = .ok (.getfield 83, 3) := by decide +kernel
theorem dX11_seeks_64 : decode cX11_seeks 64 = .ok (.iload_n 1, 1) := by decide +kernel
theorem dX11_seeks_65 : decode cX11_seeks 65 = .ok (.aaload, 1) := by decide +kernel
theorem dX11_seeks_66 : decode cX11_seeks 66 = .ok (.iload_n 3, 1) := by decide +kernel
theorem dX11_seeks_67 : decode cX11_seeks 67 = .ok (.dup2, 1) := by decide +kernel
theorem dX11_seeks_68 : decode cX11_seeks 68 = .ok (.iaload, 1) := by decide +kernel
theorem dX11_seeks_69 : decode cX11_seeks 69 = .ok (.iconst 1, 1) := by decide +kernel
theorem dX11_seeks_70 : decode cX11_seeks 70 = .ok (.iadd, 1) := by decide +kernel
theorem dX11_seeks_71 : decode cX11_seeks 71 = .ok (.iastore, 1) := by decide +kernel
theorem dX11_seeks_72 : decode cX11_seeks 72 = .ok (.aload_n 0, 1) := by decide +kernel
theorem dX11_seeks_73 : decode cX11_seeks 73 = .ok (.dup, 1) := by decide +kernel
theorem dX11_seeks_74 : decode cX11_seeks 74 = .ok (.getfield 332, 3) := by decide +kernel
theorem dX11_seeks_77 : decode cX11_seeks 77 = .ok (.iconst 1, 1) := by decide +kernel
theorem dX11_seeks_78 : decode cX11_seeks 78 = .ok (.iadd, 1) := by decide +kernel
theorem dX11_seeks_79 : decode cX11_seeks 79 = .ok (.putfield 332, 3) := by decide +kernel
theorem dX11_seeks_82 : decode cX11_seeks 82 = .ok (.aload_n 0, 1) := by decide +kernel
theorem dX11_seeks_83 : decode cX11_seeks 83 = .ok (.dup, 1) := by decide +kernel
theorem dX11_seeks_84 : decode cX11_seeks 84 = .ok (.getfield 335, 3) := by decide +kernel
theorem dX11_seeks_87 : decode cX11_seeks 87 = .ok (.aload_n 0, 1) := by decide +kernel
theorem dX11_seeks_88 : decode cX11_seeks 88 = .ok (.iload_n 1, 1) := by decide +kernel
theorem dX11_seeks_89 : decode cX11_seeks 89 = .ok (.iload_n 3, 1) := by decide +kernel
theorem dX11_seeks_90 : decode cX11_seeks 90 = .ok (.invokevirtual 311, 3) := by decide +kernel
theorem dX11_seeks_93 : decode cX11_seeks 93 = .ok (.iadd, 1) := by decide +kernel
theorem dX11_seeks_94 : decode cX11_seeks 94 = .ok (.putfield 335, 3) := by decide +kernel
theorem dX11_seeks_97 : decode cX11_seeks 97 = .ok (.iload_n 3, 1) := by decide +kernel
theorem dX11_seeks_98 : decode cX11_seeks 98 = .ok (.aload_n 0, 1) := by decide +kernel
theorem dX11_seeks_99 : decode cX11_seeks 99 = .ok (.getfield 308, 3) := by decide +kernel
theorem dX11_seeks_102 : decode cX11_seeks 102 = .ok (.imul, 1) := by decide +kernel
theorem dX11_seeks_103 : decode cX11_seeks 103 = .ok (.istore 4, 2) := by decide +kernel
theorem dX11_seeks_105 : decode cX11_seeks 105 = .ok (.aload_n 0, 1) := by decide +kernel
theorem dX11_seeks_106 : decode cX11_seeks 106 = .ok (.getfield 77, 3) := by decide +kernel
theorem dX11_seeks_109 : decode cX11_seeks 109 = .ok (.iload_n 1, 1) := by decide +kernel
theorem dX11_seeks_110 : decode cX11_seeks 110 = .ok (.aaload, 1) := by decide +kernel
theorem dX11_seeks_111 : decode cX11_seeks 111 = .ok (.iload 4, 2) := by decide +kernel
theorem dX11_seeks_113 : decode cX11_seeks 113 = .ok (.iaload, 1) := by decide +kernel
theorem dX11_seeks_114 : decode cX11_seeks 114 = .ok (.iload_n 2, 1) := by decide +kernel
theorem dX11_seeks_115 : decode cX11_seeks 115 = .ok (.if_icmp .ge 9, 3) := by decide +kernel
theorem dX11_seeks_118 : decode cX11_seeks 118 = .ok (.iinc 4 1, 3) := by decide +kernel
theorem dX11_seeks_121 : decode cX11_seeks 121 = .ok (.goto (-16), 3) := by decide +kernel
theorem dX11_seeks_124 : decode cX11_seeks 124 = .ok (.aload_n 0, 1) := by decide +kernel
theorem dX11_seeks_125 : decode cX11_seeks 125 = .ok (.getfield 98, 3) := by decide +kernel
theorem dX11_seeks_128 : decode cX11_seeks 128 = .ok (.iload_n 1, 1) := by decide +kernel
theorem dX11_seeks_129 : decode cX11_seeks 129 = .ok (.aload_n 0, 1) := by decide +kernel
theorem dX11_seeks_130 : decode cX11_seeks 130 = .ok (.getfield 77, 3) := by decide +kernel
theorem dX11_seeks_133 : decode cX11_seeks 133 = .ok (.iload_n 1, 1) := by decide +kernel
theorem dX11_seeks_134 : decode cX11_seeks 134 = .ok (.aaload, 1) := by decide +kernel
theorem dX11_seeks_135 : decode cX11_seeks 135 = .ok (.iload 4, 2) := by decide +kernel
theorem dX11_seeks_137 : decode cX11_seeks 137 = .ok (.iaload, 1) := by decide +kernel
theorem dX11_seeks_138 : decode cX11_seeks 138 = .ok (.iastore, 1) := by decide +kernel
theorem dX11_seeks_139 : decode cX11_seeks 139 = .ok (.return_, 1) := by decide +kernel
theorem dX11_orders_0 : decode cX11_orders 0 = .ok (.aload_n 0, 1) := by decide +kernel
theorem dX11_orders_1 : decode cX11_orders 1 = .ok (.iconst 0, 1) := by decide +kernel
theorem dX11_orders_2 : decode cX11_orders 2 = .ok (.putfield 338, 3) := by decide +kernel
theorem dX11_orders_5 : decode cX11_orders 5 = .ok (.iconst 0, 1) := by decide +kernel
theorem dX11_orders_6 : decode cX11_orders 6 = .ok (.istore_n 1, 1) := by decide +kernel
theorem dX11_orders_7 : decode cX11_orders 7 = .ok (.iload_n 1, 1) := by decide +kernel
theorem dX11_orders_8 : decode cX11_orders 8 = .ok (.aload_n 0, 1) := by decide +kernel
theorem dX11_orders_9 : decode cX11_orders 9 = .ok (.getfield 211, 3) := by decide +kernel
theorem dX11_orders_12 : decode cX11_orders 12 = .ok (.if_icmp .ge 89, 3) := by decide +kernel
theorem dX11_orders_15 : decode cX11_orders 15 = .ok (.aload_n 0, 1) := by decide +kernel
theorem dX11_orders_16 : decode cX11_orders 16 = .ok (.getfield 107, 3) := by decide +kernel
theorem dX11_orders_19 : decode cX11_orders 19 = .ok (.iload_n 1, 1) := by decide +kernel
theorem dX11_orders_20 : decode cX11_orders 20 = .ok (.baload, 1) := by decide +kernel
theorem dX11_orders_21 : decode cX11_orders 21 = .ok (.ifCond .eq 6, 3) := by decide +kernel
theorem dX11_orders_24 : decode cX11_orders 24 = .ok (.goto 71, 3) := by decide +kernel
theorem dX11_orders_27 : decode cX11_orders 27 = .ok (.aload_n 0, 1) := by decide +kernel
theorem dX11_orders_28 : decode cX11_orders 28 = .ok (.getfield 338, 3) := by decide +kernel
theorem dX11_orders_31 : decode cX11_orders 31 = .ok (.istore_n 2, 1) := by decide +kernel
theorem dX11_orders_32 : decode cX11_orders 32 = .ok (.iload_n 2, 1) := by decide +kernel
theorem dX11_orders_33 : decode cX11_orders 33 = .ok (.ifCond .le 45, 3) := by decide +kernel
theorem dX11_orders_36 : decode cX11_orders 36 = .ok (.aload_n 0, 1) := by decide +kernel
theorem dX11_orders_37 : decode cX11_orders 37 = .ok (.getfield 98, 3) := by decide +kernel
theorem dX11_orders_40 : decode cX11_orders 40 = .ok (.aload_n 0, 1) := by decide +kernel
theorem dX11_orders_41 : decode cX11_orders 41 = .ok (.getfield 104, 3) := by decide +kernel
theorem dX11_orders_44 : decode cX11_orders 44 = .ok (.iload_n 2, 1) := by decide +kernel
theorem dX11_orders_45 : decode cX11_orders 45 = .ok (.iconst 1, 1) := by decide +kernel
theorem dX11_orders_46 : decode cX11_orders 46 = .ok (.isub, 1) := by decide +kernel
theorem dX11_orders_47 : decode cX11_orders 47 = .ok (.iaload, 1) := by decide +kernel
theorem dX11_orders_48 : decode cX11_orders 48 = .ok (.iaload, 1) := by decide +kernel
theorem dX11_orders_49 : decode cX11_orders 49 = .ok (.aload_n 0, 1) := by decide +kernel
theorem dX11_orders_50 : decode cX11_orders 50 = .ok (.getfield 98, 3) := by decide +kernel
theorem dX11_orders_53 : decode cX11_orders 53 = .ok (.iload_n 1, 1) := by decide +kernel
theorem dX11_orders_54 : decode cX11_orders 54 = .ok (.iaload, 1) := by decide +kernel
theorem dX11_orders_55 : decode cX11_orders 55 = .ok (.if_icmp .le 23, 3) := by decide +kernel
theorem dX11_orders_58 : decode cX11_orders 58 = .ok (.aload_n 0, 1) := by decide +kernel
theorem dX11_orders_59 : decode cX11_orders 59 = .ok (.getfield 104, 3) := by decide +kernel
theorem dX11_orders_62 : decode cX11_orders 62 = .ok (.iload_n 2, 1) := by decide +kernel
theorem dX11_orders_63 : decode cX11_orders 63 = .ok (.aload_n 0, 1) := by decide +kernel
theorem dX11_orders_64 : decode cX11_orders 64 = .ok (.getfield 104, 3) := by decide +kernel
theorem dX11_orders_67 : decode cX11_orders 67 = .ok (.iload_n 2, 1) := by decide +kernel
theorem dX11_orders_68 : decode cX11_orders 68 = .ok (.iconst 1, 1) := by decide +kernel
theorem dX11_orders_69 : decode cX11_orders 69 = .ok (.isub, 1) := by decide +kernel
theorem dX11_orders_70 : decode cX11_orders 70 = .ok (.iaload, 1) := by decide +kernel
theorem dX11_orders_71 : decode cX11_orders 71 = .ok (.iastore, 1) := by decide +kernel
theorem dX11_orders_72 : decode cX11_orders 72 = .ok (.iinc 2 (-1), 3) := by decide +kernel
theorem dX11_orders_75 : decode cX11_orders 75 = .ok (.goto (-43), 3) := by decide +kernel
theorem dX11_orders_78 : decode cX11_orders 78 = .ok (.aload_n 0, 1) := by decide +kernel
theorem dX11_orders_79 : decode cX11_orders 79 = .ok (.getfield 104, 3) := by decide +kernel
theorem dX11_orders_82 : decode cX11_orders 82 = .ok (.iload_n 2, 1) := by decide +kernel
theorem dX11_orders_83 : decode cX11_orders 83 = .ok (.iload_n 1, 1) := by decide +kernel
theorem dX11_orders_84 : decode cX11_orders 84 = .ok (.iastore, 1) := by decide +kernel
theorem dX11_orders_85 : decode cX11_orders 85 = .ok (.aload_n 0, 1) := by decide +kernel
theorem dX11_orders_86 : decode cX11_orders 86 = .ok (.dup, 1) := by decide +kernel
theorem dX11_orders_87 : decode cX11_orders 87 = .ok (.getfield 338, 3) := by decide +kernel
theorem dX11_orders_90 : decode cX11_orders 90 = .ok (.iconst 1, 1) := by decide +kernel
theorem dX11_orders_91 : decode cX11_orders 91 = .ok (.iadd, 1) := by decide +kernel
theorem dX11_orders_92 : decode cX11_orders 92 = .ok (.putfield 338, 3) := by decide +kernel
theorem dX11_orders_95 : decode cX11_orders 95 = .ok (.iinc 1 1, 3) := by decide +kernel
theorem dX11_orders_98 : decode cX11_orders 98 = .ok (.goto (-91), 3) := by decide +kernel
theorem dX11_orders_101 : decode cX11_orders 101 = .ok (.return_, 1) := by decide +kernel
theorem dX11_mostNear_0 : decode cX11_mostNear 0 = .ok (.aload_n 0, 1) := by decide +kernel
theorem dX11_mostNear_1 : decode cX11_mostNear 1 = .ok (.getfield 211, 3) := by decide +kernel
theorem dX11_mostNear_4 : decode cX11_mostNear 4 = .ok (.iconst 2, 1) := by decide +kernel
theorem dX11_mostNear_5 : decode cX11_mostNear 5 = .ok (.if_icmp .ge 7, 3) := by decide +kernel
theorem dX11_mostNear_8 : decode cX11_mostNear 8 = .ok (.iconst 0, 1) := by decide +kernel
theorem dX11_mostNear_9 : decode cX11_mostNear 9 = .ok (.goto 17, 3) := by decide +kernel
theorem dX11_mostNear_12 : decode cX11_mostNear 12 = .ok (.bipush 50, 2) := by decide +kernel
theorem dX11_mostNear_14 : decode cX11_mostNear 14 = .ok (.aload_n 0, 1) := by decide +kernel
theorem dX11_mostNear_15 : decode cX11_mostNear 15 = .ok (.getfield 226, 3) := by decide +kernel
theorem dX11_mostNear_18 : decode cX11_mostNear 18 = .ok (.imul, 1) := by decide +kernel
theorem dX11_mostNear_19 : decode cX11_mostNear 19 = .ok (.aload_n 0, 1) := by decide +kernel
theorem dX11_mostNear_20 : decode cX11_mostNear 20 = .ok (.getfield 211, 3) := by decide +kernel
theorem dX11_mostNear_23 : decode cX11_mostNear 23 = .ok (.iconst 1, 1) := by decide +kernel
theorem dX11_mostNear_24 : decode cX11_mostNear 24 = .ok (.isub, 1) := by decide +kernel
theorem dX11_mostNear_25 : decode cX11_mostNear 25 = .ok (.imul, 1) := by decide +kernel
theorem dX11_mostNear_26 : decode cX11_mostNear 26 = .ok (.ireturn, 1) := by decide +kernel
theorem dX11_floor_0 : decode cX11_floor 0 = .ok (.aload_n 0, 1) := by decide +kernel
theorem dX11_floor_1 : decode cX11_floor 1 = .ok (.getfield 341, 3) := by decide +kernel
theorem dX11_floor_4 : decode cX11_floor 4 = .ok (.iload_n 1, 1) := by decide +kernel
theorem dX11_floor_5 : decode cX11_floor 5 = .ok (.if_icmp .ge 7, 3) := by decide +kernel
theorem dX11_floor_8 : decode cX11_floor 8 = .ok (.iconst 0, 1) := by decide +kernel
theorem dX11_floor_9 : decode cX11_floor 9 = .ok (.goto 11, 3) := by decide +kernel
theorem dX11_floor_12 : decode cX11_floor 12 = .ok (.aload_n 0, 1) := by decide +kernel
theorem dX11_floor_13 : decode cX11_floor 13 = .ok (.getfield 114, 3) := by decide +kernel
theorem dX11_floor_16 : decode cX11_floor 16 = .ok (.iload_n 1, 1) := by decide +kernel
theorem dX11_floor_17 : decode cX11_floor 17 = .ok (.iconst 1, 1) := by decide +kernel
theorem dX11_floor_18 : decode cX11_floor 18 = .ok (.isub, 1) := by decide +kernel
theorem dX11_floor_19 : decode cX11_floor 19 = .ok (.iaload, 1) := by decide +kernel
theorem dX11_floor_20 : decode cX11_floor 20 = .ok (.ireturn, 1) := by decide +kernel
theorem dX11_pivot_0 : decode cX11_pivot 0 = .ok (.aload_n 0, 1) := by decide +kernel
theorem dX11_pivot_1 : decode cX11_pivot 1 = .ok (.invokevirtual 344, 3) := by decide +kernel
theorem dX11_pivot_4 : decode cX11_pivot 4 = .ok (.istore_n 2, 1) := by decide +kernel
theorem dX11_pivot_5 : decode cX11_pivot 5 = .ok (.iconst 0, 1) := by decide +kernel
theorem dX11_pivot_6 : decode cX11_pivot 6 = .ok (.istore_n 3, 1) := by decide +kernel
theorem dX11_pivot_7 : decode cX11_pivot 7 = .ok (.iload_n 3, 1) := by decide +kernel
theorem dX11_pivot_8 : decode cX11_pivot 8 = .ok (.aload_n 0, 1) := by decide +kernel
theorem dX11_pivot_9 : decode cX11_pivot 9 = .ok (.getfield 338, 3) := by decide +kernel
theorem dX11_pivot_12 : decode cX11_pivot 12 = .ok (.if_icmp .ge 30, 3) := by decide +kernel
theorem dX11_pivot_15 : decode cX11_pivot 15 = .ok (.iload_n 2, 1) := by decide +kernel
theorem dX11_pivot_16 : decode cX11_pivot 16 = .ok (.aload_n 0, 1) := by decide +kernel
theorem dX11_pivot_17 : decode cX11_pivot 17 = .ok (.getfield 92, 3) := by decide +kernel
theorem dX11_pivot_20 : decode cX11_pivot 20 = .ok (.aload_n 0, 1) := by decide +kernel
theorem dX11_pivot_21 : decode cX11_pivot 21 = .ok (.getfield 104, 3) := by decide +kernel
theorem dX11_pivot_24 : decode cX11_pivot 24 = .ok (.iload_n 3, 1) := by decide +kernel
theorem dX11_pivot_25 : decode cX11_pivot 25 = .ok (.iaload, 1) := by decide +kernel
theorem dX11_pivot_26 : decode cX11_pivot 26 = .ok (.iaload, 1) := by decide +kernel
theorem dX11_pivot_27 : decode cX11_pivot 27 = .ok (.iadd, 1) := by decide +kernel
theorem dX11_pivot_28 : decode cX11_pivot 28 = .ok (.istore_n 2, 1) := by decide +kernel
theorem dX11_pivot_29 : decode cX11_pivot 29 = .ok (.iload_n 2, 1) := by decide +kernel
theorem dX11_pivot_30 : decode cX11_pivot 30 = .ok (.iload_n 1, 1) := by decide +kernel
theorem dX11_pivot_31 : decode cX11_pivot 31 = .ok (.if_icmp .le 5, 3) := by decide +kernel
theorem dX11_pivot_34 : decode cX11_pivot 34 = .ok (.iload_n 3, 1) := by decide +kernel
theorem dX11_pivot_35 : decode cX11_pivot 35 = .ok (.ireturn, 1) := by decide +kernel
theorem dX11_pivot_36 : decode cX11_pivot 36 = .ok (.iinc 3 1, 3) := by decide +kernel
theorem dX11_pivot_39 : decode cX11_pivot 39 = .ok (.goto (-32), 3) := by decide +kernel
theorem dX11_pivot_42 : decode cX11_pivot 42 = .ok (.aload_n 0, 1) := by decide +kernel
theorem dX11_pivot_43 : decode cX11_pivot 43 = .ok (.getfield 338, 3) := by decide +kernel
theorem dX11_pivot_46 : decode cX11_pivot 46 = .ok (.ireturn, 1) := by decide +kernel
theorem dX11_blockFor_0 : decode cX11_blockFor 0 = .ok (.aload_n 0, 1) := by decide +kernel
theorem dX11_blockFor_1 : decode cX11_blockFor 1 = .ok (.getfield 95, 3) := by decide +kernel
theorem dX11_blockFor_4 : decode cX11_blockFor 4 = .ok (.iload_n 1, 1) := by decide +kernel
theorem dX11_blockFor_5 : decode cX11_blockFor 5 = .ok (.iaload, 1) := by decide +kernel
theorem dX11_blockFor_6 : decode cX11_blockFor 6 = .ok (.istore_n 3, 1) := by decide +kernel
theorem dX11_blockFor_7 : decode cX11_blockFor 7 = .ok (.iload_n 3, 1) := by decide +kernel
theorem dX11_blockFor_8 : decode cX11_blockFor 8 = .ok (.aload_n 0, 1) := by decide +kernel
theorem dX11_blockFor_9 : decode cX11_blockFor 9 = .ok (.iload_n 1, 1) := by decide +kernel
theorem dX11_blockFor_10 : decode cX11_blockFor 10 = .ok (.invokevirtual 320, 3) := by decide +kernel
theorem dX11_blockFor_13 : decode cX11_blockFor 13 = .ok (.if_icmp .ge 19, 3) := by decide +kernel
theorem dX11_blockFor_16 : decode cX11_blockFor 16 = .ok (.aload_n 0, 1) := by decide +kernel
theorem dX11_blockFor_17 : decode cX11_blockFor 17 = .ok (.iload_n 1, 1) := by decide +kernel
theorem dX11_blockFor_18 : decode cX11_blockFor 18 = .ok (.iload_n 3, 1) := by decide +kernel
theorem dX11_blockFor_19 : decode cX11_blockFor 19 = .ok (.invokevirtual 317, 3) := by decide +kernel
theorem dX11_blockFor_22 : decode cX11_blockFor 22 = .ok (.iload_n 2, 1) := by decide +kernel
theorem dX11_blockFor_23 : decode cX11_blockFor 23 = .ok (.if_icmp .ge 9, 3) := by decide +kernel
theorem dX11_blockFor_26 : decode cX11_blockFor 26 = .ok (.iinc 3 1, 3) := by decide +kernel
theorem dX11_blockFor_29 : decode cX11_blockFor 29 = .ok (.goto (-22), 3) := by decide +kernel
theorem dX11_blockFor_32 : decode cX11_blockFor 32 = .ok (.iload_n 3, 1) := by decide +kernel
theorem dX11_blockFor_33 : decode cX11_blockFor 33 = .ok (.ireturn, 1) := by decide +kernel
theorem dX11_skipsTo_0 : decode cX11_skipsTo 0 = .ok (.aload_n 0, 1) := by decide +kernel
theorem dX11_skipsTo_1 : decode cX11_skipsTo 1 = .ok (.invokevirtual 344, 3) := by decide +kernel
theorem dX11_skipsTo_4 : decode cX11_skipsTo 4 = .ok (.istore 4, 2) := by decide +kernel
theorem dX11_skipsTo_6 : decode cX11_skipsTo 6 = .ok (.iload_n 1, 1) := by decide +kernel
theorem dX11_skipsTo_7 : decode cX11_skipsTo 7 = .ok (.aload_n 0, 1) := by decide +kernel
theorem dX11_skipsTo_8 : decode cX11_skipsTo 8 = .ok (.getfield 338, 3) := by decide +kernel
theorem dX11_skipsTo_11 : decode cX11_skipsTo 11 = .ok (.if_icmp .ge 17, 3) := by decide +kernel
theorem dX11_skipsTo_14 : decode cX11_skipsTo 14 = .ok (.aload_n 0, 1) := by decide +kernel
theorem dX11_skipsTo_15 : decode cX11_skipsTo 15 = .ok (.getfield 98, 3) := by decide +kernel
theorem dX11_skipsTo_18 : decode cX11_skipsTo 18 = .ok (.aload_n 0, 1) := by decide +kernel
theorem dX11_skipsTo_19 : decode cX11_skipsTo 19 = .ok (.getfield 104, 3) := by decide +kernel
theorem dX11_skipsTo_22 : decode cX11_skipsTo 22 = .ok (.iload_n 1, 1) := by decide +kernel
theorem dX11_skipsTo_23 : decode cX11_skipsTo 23 = .ok (.iaload, 1) := by decide +kernel
theorem dX11_skipsTo_24 : decode cX11_skipsTo 24 = .ok (.iaload, 1) := by decide +kernel
theorem dX11_skipsTo_25 : decode cX11_skipsTo 25 = .ok (.goto 5, 3) := by decide +kernel
theorem dX11_skipsTo_28 : decode cX11_skipsTo 28 = .ok (.bipush 65, 2) := by decide +kernel
theorem dX11_skipsTo_30 : decode cX11_skipsTo 30 = .ok (.istore 5, 2) := by decide +kernel
theorem dX11_skipsTo_32 : decode cX11_skipsTo 32 = .ok (.iconst 0, 1) := by decide +kernel
theorem dX11_skipsTo_33 : decode cX11_skipsTo 33 = .ok (.istore 6, 2) := by decide +kernel
theorem dX11_skipsTo_35 : decode cX11_skipsTo 35 = .ok (.iload 6, 2) := by decide +kernel
theorem dX11_skipsTo_37 : decode cX11_skipsTo 37 = .ok (.iload_n 1, 1) := by decide +kernel
theorem dX11_skipsTo_38 : decode cX11_skipsTo 38 = .ok (.if_icmp .ge 79, 3) := by decide +kernel
theorem dX11_skipsTo_41 : decode cX11_skipsTo 41 = .ok (.aload_n 0, 1) := by decide +kernel
theorem dX11_skipsTo_42 : decode cX11_skipsTo 42 = .ok (.getfield 104, 3) := by decide +kernel
theorem dX11_skipsTo_45 : decode cX11_skipsTo 45 = .ok (.iload 6, 2) := by decide +kernel
theorem dX11_skipsTo_47 : decode cX11_skipsTo 47 = .ok (.iaload, 1) := by decide +kernel
theorem dX11_skipsTo_48 : decode cX11_skipsTo 48 = .ok (.istore 7, 2) := by decide +kernel
theorem dX11_skipsTo_50 : decode cX11_skipsTo 50 = .ok (.aload_n 0, 1) := by decide +kernel
theorem dX11_skipsTo_51 : decode cX11_skipsTo 51 = .ok (.iload 7, 2) := by decide +kernel
theorem dX11_skipsTo_53 : decode cX11_skipsTo 53 = .ok (.iload_n 2, 1) := by decide +kernel
theorem dX11_skipsTo_54 : decode cX11_skipsTo 54 = .ok (.invokevirtual 347, 3) := by decide +kernel
theorem dX11_skipsTo_57 : decode cX11_skipsTo 57 = .ok (.istore 8, 2) := by decide +kernel
theorem dX11_skipsTo_59 : decode cX11_skipsTo 59 = .ok (.iload 8, 2) := by decide +kernel
theorem dX11_skipsTo_61 : decode cX11_skipsTo 61 = .ok (.aload_n 0, 1) := by decide +kernel
theorem dX11_skipsTo_62 : decode cX11_skipsTo 62 = .ok (.iload 7, 2) := by decide +kernel
theorem dX11_skipsTo_64 : decode cX11_skipsTo 64 = .ok (.invokevirtual 320, 3) := by decide +kernel
theorem dX11_skipsTo_67 : decode cX11_skipsTo 67 = .ok (.if_icmp .ne 6, 3) := by decide +kernel
theorem dX11_skipsTo_70 : decode cX11_skipsTo 70 = .ok (.goto 41, 3) := by decide +kernel
theorem dX11_skipsTo_73 : decode cX11_skipsTo 73 = .ok (.iload 4, 2) := by decide +kernel
theorem dX11_skipsTo_75 : decode cX11_skipsTo 75 = .ok (.aload_n 0, 1) := by decide +kernel
theorem dX11_skipsTo_76 : decode cX11_skipsTo 76 = .ok (.getfield 89, 3) := by decide +kernel
theorem dX11_skipsTo_79 : decode cX11_skipsTo 79 = .ok (.iload 7, 2) := by decide +kernel
theorem dX11_skipsTo_81 : decode cX11_skipsTo 81 = .ok (.iaload, 1) := by decide +kernel
theorem dX11_skipsTo_82 : decode cX11_skipsTo 82 = .ok (.aload_n 0, 1) := by decide +kernel
theorem dX11_skipsTo_83 : decode cX11_skipsTo 83 = .ok (.iload 7, 2) := by decide +kernel
theorem dX11_skipsTo_85 : decode cX11_skipsTo 85 = .ok (.iload 8, 2) := by decide +kernel
theorem dX11_skipsTo_87 : decode cX11_skipsTo 87 = .ok (.invokevirtual 350, 3) := by decide +kernel
theorem dX11_skipsTo_90 : decode cX11_skipsTo 90 = .ok (.imul, 1) := by decide +kernel
theorem dX11_skipsTo_91 : decode cX11_skipsTo 91 = .ok (.iadd, 1) := by decide +kernel
theorem dX11_skipsTo_92 : decode cX11_skipsTo 92 = .ok (.istore 4, 2) := by decide +kernel
theorem dX11_skipsTo_94 : decode cX11_skipsTo 94 = .ok (.iload 5, 2) := by decide +kernel
theorem dX11_skipsTo_96 : decode cX11_skipsTo 96 = .ok (.aload_n 0, 1) := by decide +kernel
theorem dX11_skipsTo_97 : decode cX11_skipsTo 97 = .ok (.iload 7, 2) := by decide +kernel
theorem dX11_skipsTo_99 : decode cX11_skipsTo 99 = .ok (.iload 8, 2) := by decide +kernel
theorem dX11_skipsTo_101 : decode cX11_skipsTo 101 = .ok (.invokevirtual 317, 3) := by decide +kernel
theorem dX11_skipsTo_104 : decode cX11_skipsTo 104 = .ok (.iconst 1, 1) := by decide +kernel
theorem dX11_skipsTo_105 : decode cX11_skipsTo 105 = .ok (.iadd, 1) := by decide +kernel
theorem dX11_skipsTo_106 : decode cX11_skipsTo 106 = .ok (.invokestatic 236, 3) := by decide +kernel
theorem dX11_skipsTo_109 : decode cX11_skipsTo 109 = .ok (.istore 5, 2) := by decide +kernel
theorem dX11_skipsTo_111 : decode cX11_skipsTo 111 = .ok (.iinc 6 1, 3) := by decide +kernel
theorem dX11_skipsTo_114 : decode cX11_skipsTo 114 = .ok (.goto (-79), 3) := by decide +kernel
theorem dX11_skipsTo_117 : decode cX11_skipsTo 117 = .ok (.iload 4, 2) := by decide +kernel
theorem dX11_skipsTo_119 : decode cX11_skipsTo 119 = .ok (.iload_n 3, 1) := by decide +kernel
theorem dX11_skipsTo_120 : decode cX11_skipsTo 120 = .ok (.if_icmp .le 7, 3) := by decide +kernel
theorem dX11_skipsTo_123 : decode cX11_skipsTo 123 = .ok (.iconst (-1), 1) := by decide +kernel
theorem dX11_skipsTo_124 : decode cX11_skipsTo 124 = .ok (.goto 5, 3) := by decide +kernel
theorem dX11_skipsTo_127 : decode cX11_skipsTo 127 = .ok (.iload 5, 2) := by decide +kernel
theorem dX11_skipsTo_129 : decode cX11_skipsTo 129 = .ok (.ireturn, 1) := by decide +kernel
theorem dX11_keepsBest_0 : decode cX11_keepsBest 0 = .ok (.aload_n 0, 1) := by decide +kernel
theorem dX11_keepsBest_1 : decode cX11_keepsBest 1 = .ok (.iload_n 1, 1) := by decide +kernel
theorem dX11_keepsBest_2 : decode cX11_keepsBest 2 = .ok (.invokevirtual 305, 3) := by decide +kernel
theorem dX11_keepsBest_5 : decode cX11_keepsBest 5 = .ok (.istore_n 3, 1) := by decide +kernel
theorem dX11_keepsBest_6 : decode cX11_keepsBest 6 = .ok (.aload_n 0, 1) := by decide +kernel
theorem dX11_keepsBest_7 : decode cX11_keepsBest 7 = .ok (.getfield 341, 3) := by decide +kernel
theorem dX11_keepsBest_10 : decode cX11_keepsBest 10 = .ok (.iload_n 2, 1) := by decide +kernel
theorem dX11_keepsBest_11 : decode cX11_keepsBest 11 = .ok (.if_icmp .ne 13, 3) := by decide +kernel
theorem dX11_keepsBest_14 : decode cX11_keepsBest 14 = .ok (.iload_n 3, 1) := by decide +kernel
theorem dX11_keepsBest_15 : decode cX11_keepsBest 15 = .ok (.aload_n 0, 1) := by decide +kernel
theorem dX11_keepsBest_16 : decode cX11_keepsBest 16 = .ok (.iload_n 2, 1) := by decide +kernel
theorem dX11_keepsBest_17 : decode cX11_keepsBest 17 = .ok (.invokevirtual 353, 3) := by decide +kernel
theorem dX11_keepsBest_20 : decode cX11_keepsBest 20 = .ok (.if_icmp .gt 4, 3) := by decide +kernel
theorem dX11_keepsBest_23 : decode cX11_keepsBest 23 = .ok (.return_, 1) := by decide +kernel
theorem dX11_keepsBest_24 : decode cX11_keepsBest 24 = .ok (.aload_n 0, 1) := by decide +kernel
theorem dX11_keepsBest_25 : decode cX11_keepsBest 25 = .ok (.getfield 341, 3) := by decide +kernel
theorem dX11_keepsBest_28 : decode cX11_keepsBest 28 = .ok (.istore 4, 2) := by decide +kernel
theorem dX11_keepsBest_30 : decode cX11_keepsBest 30 = .ok (.iload 4, 2) := by decide +kernel
theorem dX11_keepsBest_32 : decode cX11_keepsBest 32 = .ok (.ifCond .le 54, 3) := by decide +kernel
theorem dX11_keepsBest_35 : decode cX11_keepsBest 35 = .ok (.aload_n 0, 1) := by decide +kernel
theorem dX11_keepsBest_36 : decode cX11_keepsBest 36 = .ok (.getfield 114, 3) := by decide +kernel
theorem dX11_keepsBest_39 : decode cX11_keepsBest 39 = .ok (.iload 4, 2) := by decide +kernel
theorem dX11_keepsBest_41 : decode cX11_keepsBest 41 = .ok (.iconst 1, 1) := by decide +kernel
theorem dX11_keepsBest_42 : decode cX11_keepsBest 42 = .ok (.isub, 1) := by decide +kernel
theorem dX11_keepsBest_43 : decode cX11_keepsBest 43 = .ok (.iaload, 1) := by decide +kernel
theorem dX11_keepsBest_44 : decode cX11_keepsBest 44 = .ok (.iload_n 3, 1) := by decide +kernel
theorem dX11_keepsBest_45 : decode cX11_keepsBest 45 = .ok (.if_icmp .ge 41, 3) := by decide +kernel
theorem dX11_keepsBest_48 : decode cX11_keepsBest 48 = .ok (.aload_n 0, 1) := by decide +kernel
theorem dX11_keepsBest_49 : decode cX11_keepsBest 49 = .ok (.getfield 111, 3) := by decide +kernel
theorem dX11_keepsBest_52 : decode cX11_keepsBest 52 = .ok (.iload 4, 2) := by decide +kernel
theorem dX11_keepsBest_54 : decode cX11_keepsBest 54 = .ok (.aload_n 0, 1) := by decide +kernel
theorem dX11_keepsBest_55 : decode cX11_keepsBest 55 = .ok (.getfield 111, 3) := by decide +kernel
theorem dX11_keepsBest_58 : decode cX11_keepsBest 58 = .ok (.iload 4, 2) := by decide +kernel
theorem dX11_keepsBest_60 : decode cX11_keepsBest 60 = .ok (.iconst 1, 1) := by decide +kernel
theorem dX11_keepsBest_61 : decode cX11_keepsBest 61 = .ok (.isub, 1) := by decide +kernel
theorem dX11_keepsBest_62 : decode cX11_keepsBest 62 = .ok (.iaload, 1) := by decide +kernel
theorem dX11_keepsBest_63 : decode cX11_keepsBest 63 = .ok (.iastore, 1) := by decide +kernel
theorem dX11_keepsBest_64 : decode cX11_keepsBest 64 = .ok (.aload_n 0, 1) := by decide +kernel
theorem dX11_keepsBest_65 : decode cX11_keepsBest 65 = .ok (.getfield 114, 3) := by decide +kernel
theorem dX11_keepsBest_68 : decode cX11_keepsBest 68 = .ok (.iload 4, 2) := by decide +kernel
theorem dX11_keepsBest_70 : decode cX11_keepsBest 70 = .ok (.aload_n 0, 1) := by decide +kernel
theorem dX11_keepsBest_71 : decode cX11_keepsBest 71 = .ok (.getfield 114, 3) := by decide +kernel
theorem dX11_keepsBest_74 : decode cX11_keepsBest 74 = .ok (.iload 4, 2) := by decide +kernel
theorem dX11_keepsBest_76 : decode cX11_keepsBest 76 = .ok (.iconst 1, 1) := by decide +kernel
theorem dX11_keepsBest_77 : decode cX11_keepsBest 77 = .ok (.isub, 1) := by decide +kernel
theorem dX11_keepsBest_78 : decode cX11_keepsBest 78 = .ok (.iaload, 1) := by decide +kernel
theorem dX11_keepsBest_79 : decode cX11_keepsBest 79 = .ok (.iastore, 1) := by decide +kernel
theorem dX11_keepsBest_80 : decode cX11_keepsBest 80 = .ok (.iinc 4 (-1), 3) := by decide +kernel
theorem dX11_keepsBest_83 : decode cX11_keepsBest 83 = .ok (.goto (-53), 3) := by decide +kernel
theorem dX11_keepsBest_86 : decode cX11_keepsBest 86 = .ok (.aload_n 0, 1) := by decide +kernel
theorem dX11_keepsBest_87 : decode cX11_keepsBest 87 = .ok (.getfield 111, 3) := by decide +kernel
theorem dX11_keepsBest_90 : decode cX11_keepsBest 90 = .ok (.iload 4, 2) := by decide +kernel
theorem dX11_keepsBest_92 : decode cX11_keepsBest 92 = .ok (.iload_n 1, 1) := by decide +kernel
theorem dX11_keepsBest_93 : decode cX11_keepsBest 93 = .ok (.iastore, 1) := by decide +kernel
theorem dX11_keepsBest_94 : decode cX11_keepsBest 94 = .ok (.aload_n 0, 1) := by decide +kernel
theorem dX11_keepsBest_95 : decode cX11_keepsBest 95 = .ok (.getfield 114, 3) := by decide +kernel
theorem dX11_keepsBest_98 : decode cX11_keepsBest 98 = .ok (.iload 4, 2) := by decide +kernel
theorem dX11_keepsBest_100 : decode cX11_keepsBest 100 = .ok (.iload_n 3, 1) := by decide +kernel
theorem dX11_keepsBest_101 : decode cX11_keepsBest 101 = .ok (.iastore, 1) := by decide +kernel
theorem dX11_keepsBest_102 : decode cX11_keepsBest 102 = .ok (.aload_n 0, 1) := by decide +kernel
theorem dX11_keepsBest_103 : decode cX11_keepsBest 103 = .ok (.iload_n 2, 1) := by decide +kernel
theorem dX11_keepsBest_104 : decode cX11_keepsBest 104 = .ok (.aload_n 0, 1) := by decide +kernel
theorem dX11_keepsBest_105 : decode cX11_keepsBest 105 = .ok (.getfield 341, 3) := by decide +kernel
theorem dX11_keepsBest_108 : decode cX11_keepsBest 108 = .ok (.iconst 1, 1) := by decide +kernel
theorem dX11_keepsBest_109 : decode cX11_keepsBest 109 = .ok (.iadd, 1) := by decide +kernel
theorem dX11_keepsBest_110 : decode cX11_keepsBest 110 = .ok (.invokestatic 236, 3) := by decide +kernel
theorem dX11_keepsBest_113 : decode cX11_keepsBest 113 = .ok (.putfield 341, 3) := by decide +kernel
theorem dX11_keepsBest_116 : decode cX11_keepsBest 116 = .ok (.return_, 1) := by decide +kernel
theorem dX11_looks_0 : decode cX11_looks 0 = .ok (.iconst 0, 1) := by decide +kernel
theorem dX11_looks_1 : decode cX11_looks 1 = .ok (.istore 4, 2) := by decide +kernel
theorem dX11_looks_3 : decode cX11_looks 3 = .ok (.iconst 0, 1) := by decide +kernel
theorem dX11_looks_4 : decode cX11_looks 4 = .ok (.istore 5, 2) := by decide +kernel
theorem dX11_looks_6 : decode cX11_looks 6 = .ok (.iload 5, 2) := by decide +kernel
theorem dX11_looks_8 : decode cX11_looks 8 = .ok (.iload_n 1, 1) := by decide +kernel
theorem dX11_looks_9 : decode cX11_looks 9 = .ok (.if_icmp .ge 62, 3) := by decide +kernel
theorem dX11_looks_12 : decode cX11_looks 12 = .ok (.aload_n 0, 1) := by decide +kernel
theorem dX11_looks_13 : decode cX11_looks 13 = .ok (.aload_n 0, 1) := by decide +kernel
theorem dX11_looks_14 : decode cX11_looks 14 = .ok (.getfield 104, 3) := by decide +kernel
theorem dX11_looks_17 : decode cX11_looks 17 = .ok (.iload 5, 2) := by decide +kernel
theorem dX11_looks_19 : decode cX11_looks 19 = .ok (.iaload, 1) := by decide +kernel
theorem dX11_looks_20 : decode cX11_looks 20 = .ok (.iload_n 2, 1) := by decide +kernel
theorem dX11_looks_21 : decode cX11_looks 21 = .ok (.invokevirtual 356, 3) := by decide +kernel
theorem dX11_looks_24 : decode cX11_looks 24 = .ok (.iload 4, 2) := by decide +kernel
theorem dX11_looks_26 : decode cX11_looks 26 = .ok (.aload_n 0, 1) := by decide +kernel
theorem dX11_looks_27 : decode cX11_looks 27 = .ok (.getfield 107, 3) := by decide +kernel
theorem dX11_looks_30 : decode cX11_looks 30 = .ok (.aload_n 0, 1) := by decide +kernel
theorem dX11_looks_31 : decode cX11_looks 31 = .ok (.getfield 104, 3) := by decide +kernel
theorem dX11_looks_34 : decode cX11_looks 34 = .ok (.iload 5, 2) := by decide +kernel
theorem dX11_looks_36 : decode cX11_looks 36 = .ok (.iaload, 1) := by decide +kernel
theorem dX11_looks_37 : decode cX11_looks 37 = .ok (.baload, 1) := by decide +kernel
theorem dX11_looks_38 : decode cX11_looks 38 = .ok (.ifCond .ne 23, 3) := by decide +kernel
theorem dX11_looks_41 : decode cX11_looks 41 = .ok (.aload_n 0, 1) := by decide +kernel
theorem dX11_looks_42 : decode cX11_looks 42 = .ok (.getfield 98, 3) := by decide +kernel
theorem dX11_looks_45 : decode cX11_looks 45 = .ok (.aload_n 0, 1) := by decide +kernel
theorem dX11_looks_46 : decode cX11_looks 46 = .ok (.getfield 104, 3) := by decide +kernel
theorem dX11_looks_49 : decode cX11_looks 49 = .ok (.iload 5, 2) := by decide +kernel
theorem dX11_looks_51 : decode cX11_looks 51 = .ok (.iaload, 1) := by decide +kernel
theorem dX11_looks_52 : decode cX11_looks 52 = .ok (.iaload, 1) := by decide +kernel
theorem dX11_looks_53 : decode cX11_looks 53 = .ok (.iload_n 2, 1) := by decide +kernel
theorem dX11_looks_54 : decode cX11_looks 54 = .ok (.if_icmp .ne 7, 3) := by decide +kernel
theorem dX11_looks_57 : decode cX11_looks 57 = .ok (.iconst 1, 1) := by decide +kernel
theorem dX11_looks_58 : decode cX11_looks 58 = .ok (.goto 4, 3) := by decide +kernel
theorem dX11_looks_61 : decode cX11_looks 61 = .ok (.iconst 0, 1) := by decide +kernel
theorem dX11_looks_62 : decode cX11_looks 62 = .ok (.ior, 1) := by decide +kernel
theorem dX11_looks_63 : decode cX11_looks 63 = .ok (.istore 4, 2) := by decide +kernel
theorem dX11_looks_65 : decode cX11_looks 65 = .ok (.iinc 5 1, 3) := by decide +kernel
theorem dX11_looks_68 : decode cX11_looks 68 = .ok (.goto (-62), 3) := by decide +kernel
theorem dX11_looks_71 : decode cX11_looks 71 = .ok (.iload 4, 2) := by decide +kernel
theorem dX11_looks_73 : decode cX11_looks 73 = .ok (.ifCond .ne 4, 3) := by decide +kernel
theorem dX11_looks_76 : decode cX11_looks 76 = .ok (.return_, 1) := by decide +kernel
theorem dX11_looks_77 : decode cX11_looks 77 = .ok (.aload_n 0, 1) := by decide +kernel
theorem dX11_looks_78 : decode cX11_looks 78 = .ok (.dup, 1) := by decide +kernel
theorem dX11_looks_79 : decode cX11_looks 79 = .ok (.getfield 359, 3) := by decide +kernel
theorem dX11_looks_82 : decode cX11_looks 82 = .ok (.iconst 1, 1) := by decide +kernel
theorem dX11_looks_83 : decode cX11_looks 83 = .ok (.iadd, 1) := by decide +kernel
theorem dX11_looks_84 : decode cX11_looks 84 = .ok (.putfield 359, 3) := by decide +kernel
theorem dX11_looks_87 : decode cX11_looks 87 = .ok (.aload_n 0, 1) := by decide +kernel
theorem dX11_looks_88 : decode cX11_looks 88 = .ok (.iload_n 2, 1) := by decide +kernel
theorem dX11_looks_89 : decode cX11_looks 89 = .ok (.invokevirtual 302, 3) := by decide +kernel
theorem dX11_looks_92 : decode cX11_looks 92 = .ok (.ifCond .ne 9, 3) := by decide +kernel
theorem dX11_looks_95 : decode cX11_looks 95 = .ok (.aload_n 0, 1) := by decide +kernel
theorem dX11_looks_96 : decode cX11_looks 96 = .ok (.iload_n 2, 1) := by decide +kernel
theorem dX11_looks_97 : decode cX11_looks 97 = .ok (.iload_n 3, 1) := by decide +kernel
theorem dX11_looks_98 : decode cX11_looks 98 = .ok (.invokevirtual 362, 3) := by decide +kernel
theorem dX11_looks_101 : decode cX11_looks 101 = .ok (.iconst 0, 1) := by decide +kernel
theorem dX11_looks_102 : decode cX11_looks 102 = .ok (.istore 5, 2) := by decide +kernel
theorem dX11_looks_104 : decode cX11_looks 104 = .ok (.iload 5, 2) := by decide +kernel
theorem dX11_looks_106 : decode cX11_looks 106 = .ok (.iload_n 1, 1) := by decide +kernel
theorem dX11_looks_107 : decode cX11_looks 107 = .ok (.if_icmp .ge 54, 3) := by decide +kernel
theorem dX11_looks_110 : decode cX11_looks 110 = .ok (.aload_n 0, 1) := by decide +kernel
theorem dX11_looks_111 : decode cX11_looks 111 = .ok (.getfield 107, 3) := by decide +kernel
theorem dX11_looks_114 : decode cX11_looks 114 = .ok (.aload_n 0, 1) := by decide +kernel
theorem dX11_looks_115 : decode cX11_looks 115 = .ok (.getfield 104, 3) := by decide +kernel
theorem dX11_looks_118 : decode cX11_looks 118 = .ok (.iload 5, 2) := by decide +kernel
theorem dX11_looks_120 : decode cX11_looks 120 = .ok (.iaload, 1) := by decide +kernel
theorem dX11_looks_121 : decode cX11_looks 121 = .ok (.baload, 1) := by decide +kernel
theorem dX11_looks_122 : decode cX11_looks 122 = .ok (.ifCond .ne 33, 3) := by decide +kernel
theorem dX11_looks_125 : decode cX11_looks 125 = .ok (.aload_n 0, 1) := by decide +kernel
theorem dX11_looks_126 : decode cX11_looks 126 = .ok (.getfield 98, 3) := by decide +kernel
theorem dX11_looks_129 : decode cX11_looks 129 = .ok (.aload_n 0, 1) := by decide +kernel
theorem dX11_looks_130 : decode cX11_looks 130 = .ok (.getfield 104, 3) := by decide +kernel
theorem dX11_looks_133 : decode cX11_looks 133 = .ok (.iload 5, 2) := by decide +kernel
theorem dX11_looks_135 : decode cX11_looks 135 = .ok (.iaload, 1) := by decide +kernel
theorem dX11_looks_136 : decode cX11_looks 136 = .ok (.iaload, 1) := by decide +kernel
theorem dX11_looks_137 : decode cX11_looks 137 = .ok (.iload_n 2, 1) := by decide +kernel
theorem dX11_looks_138 : decode cX11_looks 138 = .ok (.if_icmp .ne 17, 3) := by decide +kernel
theorem dX11_looks_141 : decode cX11_looks 141 = .ok (.aload_n 0, 1) := by decide +kernel
theorem dX11_looks_142 : decode cX11_looks 142 = .ok (.aload_n 0, 1) := by decide +kernel
theorem dX11_looks_143 : decode cX11_looks 143 = .ok (.getfield 104, 3) := by decide +kernel
theorem dX11_looks_146 : decode cX11_looks 146 = .ok (.iload 5, 2) := by decide +kernel
theorem dX11_looks_148 : decode cX11_looks 148 = .ok (.iaload, 1) := by decide +kernel
theorem dX11_looks_149 : decode cX11_looks 149 = .ok (.iload_n 2, 1) := by decide +kernel
theorem dX11_looks_150 : decode cX11_looks 150 = .ok (.iconst 1, 1) := by decide +kernel
theorem dX11_looks_151 : decode cX11_looks 151 = .ok (.iadd, 1) := by decide +kernel
theorem dX11_looks_152 : decode cX11_looks 152 = .ok (.invokevirtual 329, 3) := by decide +kernel
theorem dX11_looks_155 : decode cX11_looks 155 = .ok (.iinc 5 1, 3) := by decide +kernel
theorem dX11_looks_158 : decode cX11_looks 158 = .ok (.goto (-54), 3) := by decide +kernel
theorem dX11_looks_161 : decode cX11_looks 161 = .ok (.return_, 1) := by decide +kernel
theorem dX11_turn_0 : decode cX11_turn 0 = .ok (.aload_n 0, 1) := by decide +kernel
theorem dX11_turn_1 : decode cX11_turn 1 = .ok (.dup, 1) := by decide +kernel
theorem dX11_turn_2 : decode cX11_turn 2 = .ok (.getfield 365, 3) := by decide +kernel
theorem dX11_turn_5 : decode cX11_turn 5 = .ok (.iconst 1, 1) := by decide +kernel
theorem dX11_turn_6 : decode cX11_turn 6 = .ok (.iadd, 1) := by decide +kernel
theorem dX11_turn_7 : decode cX11_turn 7 = .ok (.putfield 365, 3) := by decide +kernel
theorem dX11_turn_10 : decode cX11_turn 10 = .ok (.aload_n 0, 1) := by decide +kernel
theorem dX11_turn_11 : decode cX11_turn 11 = .ok (.invokevirtual 368, 3) := by decide +kernel
theorem dX11_turn_14 : decode cX11_turn 14 = .ok (.aload_n 0, 1) := by decide +kernel
theorem dX11_turn_15 : decode cX11_turn 15 = .ok (.iload_n 1, 1) := by decide +kernel
theorem dX11_turn_16 : decode cX11_turn 16 = .ok (.invokevirtual 353, 3) := by decide +kernel
theorem dX11_turn_19 : decode cX11_turn 19 = .ok (.istore_n 2, 1) := by decide +kernel
theorem dX11_turn_20 : decode cX11_turn 20 = .ok (.aload_n 0, 1) := by decide +kernel
theorem dX11_turn_21 : decode cX11_turn 21 = .ok (.iload_n 2, 1) := by decide +kernel
theorem dX11_turn_22 : decode cX11_turn 22 = .ok (.invokevirtual 371, 3) := by decide +kernel
theorem dX11_turn_25 : decode cX11_turn 25 = .ok (.istore_n 3, 1) := by decide +kernel
theorem dX11_turn_26 : decode cX11_turn 26 = .ok (.iload_n 3, 1) := by decide +kernel
theorem dX11_turn_27 : decode cX11_turn 27 = .ok (.aload_n 0, 1) := by decide +kernel
theorem dX11_turn_28 : decode cX11_turn 28 = .ok (.getfield 338, 3) := by decide +kernel
theorem dX11_turn_31 : decode cX11_turn 31 = .ok (.if_icmp .ne 5, 3) := by decide +kernel
theorem dX11_turn_34 : decode cX11_turn 34 = .ok (.iconst 0, 1) := by decide +kernel
theorem dX11_turn_35 : decode cX11_turn 35 = .ok (.ireturn, 1) := by decide +kernel
theorem dX11_turn_36 : decode cX11_turn 36 = .ok (.aload_n 0, 1) := by decide +kernel
theorem dX11_turn_37 : decode cX11_turn 37 = .ok (.getfield 98, 3) := by decide +kernel
theorem dX11_turn_40 : decode cX11_turn 40 = .ok (.aload_n 0, 1) := by decide +kernel
theorem dX11_turn_41 : decode cX11_turn 41 = .ok (.getfield 104, 3) := by decide +kernel
theorem dX11_turn_44 : decode cX11_turn 44 = .ok (.iload_n 3, 1) := by decide +kernel
theorem dX11_turn_45 : decode cX11_turn 45 = .ok (.iaload, 1) := by decide +kernel
theorem dX11_turn_46 : decode cX11_turn 46 = .ok (.iaload, 1) := by decide +kernel
theorem dX11_turn_47 : decode cX11_turn 47 = .ok (.istore 4, 2) := by decide +kernel
theorem dX11_turn_49 : decode cX11_turn 49 = .ok (.iload_n 3, 1) := by decide +kernel
theorem dX11_turn_50 : decode cX11_turn 50 = .ok (.iconst 1, 1) := by decide +kernel
theorem dX11_turn_51 : decode cX11_turn 51 = .ok (.iadd, 1) := by decide +kernel
theorem dX11_turn_52 : decode cX11_turn 52 = .ok (.istore 5, 2) := by decide +kernel
theorem dX11_turn_54 : decode cX11_turn 54 = .ok (.iload 5, 2) := by decide +kernel
theorem dX11_turn_56 : decode cX11_turn 56 = .ok (.aload_n 0, 1) := by decide +kernel
theorem dX11_turn_57 : decode cX11_turn 57 = .ok (.getfield 338, 3) := by decide +kernel
theorem dX11_turn_60 : decode cX11_turn 60 = .ok (.if_icmp .ge 26, 3) := by decide +kernel
theorem dX11_turn_63 : decode cX11_turn 63 = .ok (.aload_n 0, 1) := by decide +kernel
theorem dX11_turn_64 : decode cX11_turn 64 = .ok (.getfield 98, 3) := by decide +kernel
theorem dX11_turn_67 : decode cX11_turn 67 = .ok (.aload_n 0, 1) := by decide +kernel
theorem dX11_turn_68 : decode cX11_turn 68 = .ok (.getfield 104, 3) := by decide +kernel
theorem dX11_turn_71 : decode cX11_turn 71 = .ok (.iload 5, 2) := by decide +kernel
theorem dX11_turn_73 : decode cX11_turn 73 = .ok (.iaload, 1) := by decide +kernel
theorem dX11_turn_74 : decode cX11_turn 74 = .ok (.iaload, 1) := by decide +kernel
theorem dX11_turn_75 : decode cX11_turn 75 = .ok (.iload 4, 2) := by decide +kernel
theorem dX11_turn_77 : decode cX11_turn 77 = .ok (.if_icmp .ne 9, 3) := by decide +kernel
theorem dX11_turn_80 : decode cX11_turn 80 = .ok (.iinc 5 1, 3) := by decide +kernel
theorem dX11_turn_83 : decode cX11_turn 83 = .ok (.goto (-29), 3) := by decide +kernel
theorem dX11_turn_86 : decode cX11_turn 86 = .ok (.aload_n 0, 1) := by decide +kernel
theorem dX11_turn_87 : decode cX11_turn 87 = .ok (.iload 5, 2) := by decide +kernel
theorem dX11_turn_89 : decode cX11_turn 89 = .ok (.iload 4, 2) := by decide +kernel
theorem dX11_turn_91 : decode cX11_turn 91 = .ok (.iload_n 2, 1) := by decide +kernel
theorem dX11_turn_92 : decode cX11_turn 92 = .ok (.invokevirtual 374, 3) := by decide +kernel
theorem dX11_turn_95 : decode cX11_turn 95 = .ok (.istore 6, 2) := by decide +kernel
theorem dX11_turn_97 : decode cX11_turn 97 = .ok (.iload 6, 2) := by decide +kernel
theorem dX11_turn_99 : decode cX11_turn 99 = .ok (.iconst (-1), 1) := by decide +kernel
theorem dX11_turn_100 : decode cX11_turn 100 = .ok (.if_icmp .eq 45, 3) := by decide +kernel
theorem dX11_turn_103 : decode cX11_turn 103 = .ok (.aload_n 0, 1) := by decide +kernel
theorem dX11_turn_104 : decode cX11_turn 104 = .ok (.dup, 1) := by decide +kernel
theorem dX11_turn_105 : decode cX11_turn 105 = .ok (.getfield 377, 3) := by decide +kernel
theorem dX11_turn_108 : decode cX11_turn 108 = .ok (.iconst 1, 1) := by decide +kernel
theorem dX11_turn_109 : decode cX11_turn 109 = .ok (.iadd, 1) := by decide +kernel
theorem dX11_turn_110 : decode cX11_turn 110 = .ok (.putfield 377, 3) := by decide +kernel
theorem dX11_turn_113 : decode cX11_turn 113 = .ok (.iconst 0, 1) := by decide +kernel
theorem dX11_turn_114 : decode cX11_turn 114 = .ok (.istore 7, 2) := by decide +kernel
theorem dX11_turn_116 : decode cX11_turn 116 = .ok (.iload 7, 2) := by decide +kernel
theorem dX11_turn_118 : decode cX11_turn 118 = .ok (.iload 5, 2) := by decide +kernel
theorem dX11_turn_120 : decode cX11_turn 120 = .ok (.if_icmp .ge 22, 3) := by decide +kernel
theorem dX11_turn_123 : decode cX11_turn 123 = .ok (.aload_n 0, 1) := by decide +kernel
theorem dX11_turn_124 : decode cX11_turn 124 = .ok (.aload_n 0, 1) := by decide +kernel
theorem dX11_turn_125 : decode cX11_turn 125 = .ok (.getfield 104, 3) := by decide +kernel
theorem dX11_turn_128 : decode cX11_turn 128 = .ok (.iload 7, 2) := by decide +kernel
theorem dX11_turn_130 : decode cX11_turn 130 = .ok (.iaload, 1) := by decide +kernel
theorem dX11_turn_131 : decode cX11_turn 131 = .ok (.iload 6, 2) := by decide +kernel
theorem dX11_turn_133 : decode cX11_turn 133 = .ok (.invokevirtual 329, 3) := by decide +kernel
theorem dX11_turn_136 : decode cX11_turn 136 = .ok (.iinc 7 1, 3) := by decide +kernel
theorem dX11_turn_139 : decode cX11_turn 139 = .ok (.goto (-23), 3) := by decide +kernel
theorem dX11_turn_142 : decode cX11_turn 142 = .ok (.goto 43, 3) := by decide +kernel
theorem dX11_turn_145 : decode cX11_turn 145 = .ok (.aload_n 0, 1) := by decide +kernel
theorem dX11_turn_146 : decode cX11_turn 146 = .ok (.getfield 98, 3) := by decide +kernel
theorem dX11_turn_149 : decode cX11_turn 149 = .ok (.aload_n 0, 1) := by decide +kernel
theorem dX11_turn_150 : decode cX11_turn 150 = .ok (.getfield 104, 3) := by decide +kernel
theorem dX11_turn_153 : decode cX11_turn 153 = .ok (.iconst 0, 1) := by decide +kernel
theorem dX11_turn_154 : decode cX11_turn 154 = .ok (.iaload, 1) := by decide +kernel
theorem dX11_turn_155 : decode cX11_turn 155 = .ok (.iaload, 1) := by decide +kernel
theorem dX11_turn_156 : decode cX11_turn 156 = .ok (.iload 4, 2) := by decide +kernel
theorem dX11_turn_158 : decode cX11_turn 158 = .ok (.if_icmp .ge 18, 3) := by decide +kernel
theorem dX11_turn_161 : decode cX11_turn 161 = .ok (.aload_n 0, 1) := by decide +kernel
theorem dX11_turn_162 : decode cX11_turn 162 = .ok (.aload_n 0, 1) := by decide +kernel
theorem dX11_turn_163 : decode cX11_turn 163 = .ok (.getfield 104, 3) := by decide +kernel
theorem dX11_turn_166 : decode cX11_turn 166 = .ok (.iconst 0, 1) := by decide +kernel
theorem dX11_turn_167 : decode cX11_turn 167 = .ok (.iaload, 1) := by decide +kernel
theorem dX11_turn_168 : decode cX11_turn 168 = .ok (.iload 4, 2) := by decide +kernel
theorem dX11_turn_170 : decode cX11_turn 170 = .ok (.invokevirtual 356, 3) := by decide +kernel
theorem dX11_turn_173 : decode cX11_turn 173 = .ok (.goto 12, 3) := by decide +kernel
theorem dX11_turn_176 : decode cX11_turn 176 = .ok (.aload_n 0, 1) := by decide +kernel
theorem dX11_turn_177 : decode cX11_turn 177 = .ok (.iload 5, 2) := by decide +kernel
theorem dX11_turn_179 : decode cX11_turn 179 = .ok (.iload 4, 2) := by decide +kernel
theorem dX11_turn_181 : decode cX11_turn 181 = .ok (.iload_n 1, 1) := by decide +kernel
theorem dX11_turn_182 : decode cX11_turn 182 = .ok (.invokevirtual 380, 3) := by decide +kernel
theorem dX11_turn_185 : decode cX11_turn 185 = .ok (.iconst 1, 1) := by decide +kernel
theorem dX11_turn_186 : decode cX11_turn 186 = .ok (.ireturn, 1) := by decide +kernel
theorem dX11_goesEarly_0 : decode cX11_goesEarly 0 = .ok (.aload_n 0, 1) := by decide +kernel
theorem dX11_goesEarly_1 : decode cX11_goesEarly 1 = .ok (.iload_n 2, 1) := by decide +kernel
theorem dX11_goesEarly_2 : decode cX11_goesEarly 2 = .ok (.putfield 308, 3) := by decide +kernel
theorem dX11_goesEarly_5 : decode cX11_goesEarly 5 = .ok (.aload_n 0, 1) := by decide +kernel
theorem dX11_goesEarly_6 : decode cX11_goesEarly 6 = .ok (.iconst 0, 1) := by decide +kernel
theorem dX11_goesEarly_7 : decode cX11_goesEarly 7 = .ok (.putfield 341, 3) := by decide +kernel
theorem dX11_goesEarly_10 : decode cX11_goesEarly 10 = .ok (.aload_n 0, 1) := by decide +kernel
theorem dX11_goesEarly_11 : decode cX11_goesEarly 11 = .ok (.iconst 0, 1) := by decide +kernel
theorem dX11_goesEarly_12 : decode cX11_goesEarly 12 = .ok (.putfield 365, 3) := by decide +kernel
theorem dX11_goesEarly_15 : decode cX11_goesEarly 15 = .ok (.aload_n 0, 1) := by decide +kernel
theorem dX11_goesEarly_16 : decode cX11_goesEarly 16 = .ok (.iconst 0, 1) := by decide +kernel
theorem dX11_goesEarly_17 : decode cX11_goesEarly 17 = .ok (.putfield 332, 3) := by decide +kernel
theorem dX11_goesEarly_20 : decode cX11_goesEarly 20 = .ok (.aload_n 0, 1) := by decide +kernel
theorem dX11_goesEarly_21 : decode cX11_goesEarly 21 = .ok (.iconst 0, 1) := by decide +kernel
theorem dX11_goesEarly_22 : decode cX11_goesEarly 22 = .ok (.putfield 335, 3) := by decide +kernel
theorem dX11_goesEarly_25 : decode cX11_goesEarly 25 = .ok (.aload_n 0, 1) := by decide +kernel
theorem dX11_goesEarly_26 : decode cX11_goesEarly 26 = .ok (.iconst 0, 1) := by decide +kernel
theorem dX11_goesEarly_27 : decode cX11_goesEarly 27 = .ok (.putfield 326, 3) := by decide +kernel
theorem dX11_goesEarly_30 : decode cX11_goesEarly 30 = .ok (.aload_n 0, 1) := by decide +kernel
theorem dX11_goesEarly_31 : decode cX11_goesEarly 31 = .ok (.iconst 0, 1) := by decide +kernel
theorem dX11_goesEarly_32 : decode cX11_goesEarly 32 = .ok (.putfield 377, 3) := by decide +kernel
theorem dX11_goesEarly_35 : decode cX11_goesEarly 35 = .ok (.aload_n 0, 1) := by decide +kernel
theorem dX11_goesEarly_36 : decode cX11_goesEarly 36 = .ok (.iconst 0, 1) := by decide +kernel
theorem dX11_goesEarly_37 : decode cX11_goesEarly 37 = .ok (.putfield 359, 3) := by decide +kernel
theorem dX11_goesEarly_40 : decode cX11_goesEarly 40 = .ok (.iconst 0, 1) := by decide +kernel
theorem dX11_goesEarly_41 : decode cX11_goesEarly 41 = .ok (.istore_n 3, 1) := by decide +kernel
theorem dX11_goesEarly_42 : decode cX11_goesEarly 42 = .ok (.iload_n 3, 1) := by decide +kernel
theorem dX11_goesEarly_43 : decode cX11_goesEarly 43 = .ok (.aload_n 0, 1) := by decide +kernel
theorem dX11_goesEarly_44 : decode cX11_goesEarly 44 = .ok (.getfield 211, 3) := by decide +kernel
theorem dX11_goesEarly_47 : decode cX11_goesEarly 47 = .ok (.if_icmp .ge 14, 3) := by decide +kernel
theorem dX11_goesEarly_50 : decode cX11_goesEarly 50 = .ok (.aload_n 0, 1) := by decide +kernel
theorem dX11_goesEarly_51 : decode cX11_goesEarly 51 = .ok (.iload_n 3, 1) := by decide +kernel
theorem dX11_goesEarly_52 : decode cX11_goesEarly 52 = .ok (.invokevirtual 384, 3) := by decide +kernel
theorem dX11_goesEarly_55 : decode cX11_goesEarly 55 = .ok (.iinc 3 1, 3) := by decide +kernel
theorem dX11_goesEarly_58 : decode cX11_goesEarly 58 = .ok (.goto (-16), 3) := by decide +kernel
theorem dX11_goesEarly_61 : decode cX11_goesEarly 61 = .ok (.aload_n 0, 1) := by decide +kernel
theorem dX11_goesEarly_62 : decode cX11_goesEarly 62 = .ok (.getfield 211, 3) := by decide +kernel
theorem dX11_goesEarly_65 : decode cX11_goesEarly 65 = .ok (.ifCond .le 7, 3) := by decide +kernel
theorem dX11_goesEarly_68 : decode cX11_goesEarly 68 = .ok (.iconst 1, 1) := by decide +kernel
theorem dX11_goesEarly_69 : decode cX11_goesEarly 69 = .ok (.goto 4, 3) := by decide +kernel
theorem dX11_goesEarly_72 : decode cX11_goesEarly 72 = .ok (.iconst 0, 1) := by decide +kernel
theorem dX11_goesEarly_73 : decode cX11_goesEarly 73 = .ok (.istore_n 3, 1) := by decide +kernel
theorem dX11_goesEarly_74 : decode cX11_goesEarly 74 = .ok (.iload_n 3, 1) := by decide +kernel
theorem dX11_goesEarly_75 : decode cX11_goesEarly 75 = .ok (.ifCond .eq 12, 3) := by decide +kernel
theorem dX11_goesEarly_78 : decode cX11_goesEarly 78 = .ok (.aload_n 0, 1) := by decide +kernel
theorem dX11_goesEarly_79 : decode cX11_goesEarly 79 = .ok (.iload_n 1, 1) := by decide +kernel
theorem dX11_goesEarly_80 : decode cX11_goesEarly 80 = .ok (.invokevirtual 387, 3) := by decide +kernel
theorem dX11_goesEarly_83 : decode cX11_goesEarly 83 = .ok (.istore_n 3, 1) := by decide +kernel
theorem dX11_goesEarly_84 : decode cX11_goesEarly 84 = .ok (.goto (-10), 3) := by decide +kernel
theorem dX11_goesEarly_87 : decode cX11_goesEarly 87 = .ok (.return_, 1) := by decide +kernel
theorem dX11_spared_0 : decode cX11_spared 0 = .ok (.iconst 0, 1) := by decide +kernel
theorem dX11_spared_1 : decode cX11_spared 1 = .ok (.istore_n 1, 1) := by decide +kernel
theorem dX11_spared_2 : decode cX11_spared 2 = .ok (.iconst 0, 1) := by decide +kernel
theorem dX11_spared_3 : decode cX11_spared 3 = .ok (.istore_n 2, 1) := by decide +kernel
theorem dX11_spared_4 : decode cX11_spared 4 = .ok (.iload_n 2, 1) := by decide +kernel
theorem dX11_spared_5 : decode cX11_spared 5 = .ok (.aload_n 0, 1) := by decide +kernel
theorem dX11_spared_6 : decode cX11_spared 6 = .ok (.getfield 211, 3) := by decide +kernel
theorem dX11_spared_9 : decode cX11_spared 9 = .ok (.if_icmp .ge 45, 3) := by decide +kernel
theorem dX11_spared_12 : decode cX11_spared 12 = .ok (.iconst 0, 1) := by decide +kernel
theorem dX11_spared_13 : decode cX11_spared 13 = .ok (.istore_n 3, 1) := by decide +kernel
theorem dX11_spared_14 : decode cX11_spared 14 = .ok (.iload_n 3, 1) := by decide +kernel
theorem dX11_spared_15 : decode cX11_spared 15 = .ok (.aload_n 0, 1) := by decide +kernel
theorem dX11_spared_16 : decode cX11_spared 16 = .ok (.iload_n 2, 1) := by decide +kernel
theorem dX11_spared_17 : decode cX11_spared 17 = .ok (.invokevirtual 320, 3) := by decide +kernel
theorem dX11_spared_20 : decode cX11_spared 20 = .ok (.if_icmp .ge 28, 3) := by decide +kernel
theorem dX11_spared_23 : decode cX11_spared 23 = .ok (.iload_n 1, 1) := by decide +kernel
theorem dX11_spared_24 : decode cX11_spared 24 = .ok (.aload_n 0, 1) := by decide +kernel
theorem dX11_spared_25 : decode cX11_spared 25 = .ok (.getfield 83, 3) := by decide +kernel
theorem dX11_spared_28 : decode cX11_spared 28 = .ok (.iload_n 2, 1) := by decide +kernel
theorem dX11_spared_29 : decode cX11_spared 29 = .ok (.aaload, 1) := by decide +kernel
theorem dX11_spared_30 : decode cX11_spared 30 = .ok (.iload_n 3, 1) := by decide +kernel
theorem dX11_spared_31 : decode cX11_spared 31 = .ok (.iaload, 1) := by decide +kernel
theorem dX11_spared_32 : decode cX11_spared 32 = .ok (.ifCond .ne 7, 3) := by decide +kernel
theorem dX11_spared_35 : decode cX11_spared 35 = .ok (.iconst 1, 1) := by decide +kernel
theorem dX11_spared_36 : decode cX11_spared 36 = .ok (.goto 4, 3) := by decide +kernel
theorem dX11_spared_39 : decode cX11_spared 39 = .ok (.iconst 0, 1) := by decide +kernel
theorem dX11_spared_40 : decode cX11_spared 40 = .ok (.iadd, 1) := by decide +kernel
theorem dX11_spared_41 : decode cX11_spared 41 = .ok (.istore_n 1, 1) := by decide +kernel
theorem dX11_spared_42 : decode cX11_spared 42 = .ok (.iinc 3 1, 3) := by decide +kernel
theorem dX11_spared_45 : decode cX11_spared 45 = .ok (.goto (-31), 3) := by decide +kernel
theorem dX11_spared_48 : decode cX11_spared 48 = .ok (.iinc 2 1, 3) := by decide +kernel
theorem dX11_spared_51 : decode cX11_spared 51 = .ok (.goto (-47), 3) := by decide +kernel
theorem dX11_spared_54 : decode cX11_spared 54 = .ok (.iload_n 1, 1) := by decide +kernel
theorem dX11_spared_55 : decode cX11_spared 55 = .ok (.ireturn, 1) := by decide +kernel
theorem dX11_isWord_0 : decode cX11_isWord 0 = .ok (.iload_n 1, 1) := by decide +kernel
theorem dX11_isWord_1 : decode cX11_isWord 1 = .ok (.iconst 0, 1) := by decide +kernel
theorem dX11_isWord_2 : decode cX11_isWord 2 = .ok (.aload_n 0, 1) := by decide +kernel
theorem dX11_isWord_3 : decode cX11_isWord 3 = .ok (.getfield 162, 3) := by decide +kernel
theorem dX11_isWord_6 : decode cX11_isWord 6 = .ok (.iconst 1, 1) := by decide +kernel
theorem dX11_isWord_7 : decode cX11_isWord 7 = .ok (.isub, 1) := by decide +kernel
theorem dX11_isWord_8 : decode cX11_isWord 8 = .ok (.invokestatic 172, 3) := by decide +kernel
theorem dX11_isWord_11 : decode cX11_isWord 11 = .ok (.ireturn, 1) := by decide +kernel
theorem dX11_isDocument_0 : decode cX11_isDocument 0 = .ok (.iload_n 1, 1) := by decide +kernel
theorem dX11_isDocument_1 : decode cX11_isDocument 1 = .ok (.iconst 0, 1) := by decide +kernel
theorem dX11_isDocument_2 : decode cX11_isDocument 2 = .ok (.aload_n 0, 1) := by decide +kernel
theorem dX11_isDocument_3 : decode cX11_isDocument 3 = .ok (.getfield 176, 3) := by decide +kernel
theorem dX11_isDocument_6 : decode cX11_isDocument 6 = .ok (.iconst 1, 1) := by decide +kernel
theorem dX11_isDocument_7 : decode cX11_isDocument 7 = .ok (.isub, 1) := by decide +kernel
theorem dX11_isDocument_8 : decode cX11_isDocument 8 = .ok (.invokestatic 172, 3) := by decide +kernel
theorem dX11_isDocument_11 : decode cX11_isDocument 11 = .ok (.ifCond .eq 15, 3) := by decide +kernel
theorem dX11_isDocument_14 : decode cX11_isDocument 14 = .ok (.aload_n 0, 1) := by decide +kernel
theorem dX11_isDocument_15 : decode cX11_isDocument 15 = .ok (.iload_n 1, 1) := by decide +kernel
theorem dX11_isDocument_16 : decode cX11_isDocument 16 = .ok (.invokevirtual 246, 3) := by decide +kernel
theorem dX11_isDocument_19 : decode cX11_isDocument 19 = .ok (.ifCond .eq 7, 3) := by decide +kernel
theorem dX11_isDocument_22 : decode cX11_isDocument 22 = .ok (.iconst 1, 1) := by decide +kernel
theorem dX11_isDocument_23 : decode cX11_isDocument 23 = .ok (.goto 4, 3) := by decide +kernel
theorem dX11_isDocument_26 : decode cX11_isDocument 26 = .ok (.iconst 0, 1) := by decide +kernel
theorem dX11_isDocument_27 : decode cX11_isDocument 27 = .ok (.ireturn, 1) := by decide +kernel
theorem dX11_gone_0 : decode cX11_gone 0 = .ok (.iconst 0, 1) := by decide +kernel
theorem dX11_gone_1 : decode cX11_gone 1 = .ok (.istore_n 1, 1) := by decide +kernel
theorem dX11_gone_2 : decode cX11_gone 2 = .ok (.iconst 0, 1) := by decide +kernel
theorem dX11_gone_3 : decode cX11_gone 3 = .ok (.istore_n 2, 1) := by decide +kernel
theorem dX11_gone_4 : decode cX11_gone 4 = .ok (.iload_n 2, 1) := by decide +kernel
theorem dX11_gone_5 : decode cX11_gone 5 = .ok (.aload_n 0, 1) := by decide +kernel
theorem dX11_gone_6 : decode cX11_gone 6 = .ok (.getfield 176, 3) := by decide +kernel
theorem dX11_gone_9 : decode cX11_gone 9 = .ok (.if_icmp .ge 27, 3) := by decide +kernel
theorem dX11_gone_12 : decode cX11_gone 12 = .ok (.iload_n 1, 1) := by decide +kernel
theorem dX11_gone_13 : decode cX11_gone 13 = .ok (.aload_n 0, 1) := by decide +kernel
theorem dX11_gone_14 : decode cX11_gone 14 = .ok (.getfield 31, 3) := by decide +kernel
theorem dX11_gone_17 : decode cX11_gone 17 = .ok (.iload_n 2, 1) := by decide +kernel
theorem dX11_gone_18 : decode cX11_gone 18 = .ok (.iaload, 1) := by decide +kernel
theorem dX11_gone_19 : decode cX11_gone 19 = .ok (.iconst 2, 1) := by decide +kernel
theorem dX11_gone_20 : decode cX11_gone 20 = .ok (.if_icmp .ne 7, 3) := by decide +kernel
theorem dX11_gone_23 : decode cX11_gone 23 = .ok (.iconst 1, 1) := by decide +kernel
theorem dX11_gone_24 : decode cX11_gone 24 = .ok (.goto 4, 3) := by decide +kernel
theorem dX11_gone_27 : decode cX11_gone 27 = .ok (.iconst 0, 1) := by decide +kernel
theorem dX11_gone_28 : decode cX11_gone 28 = .ok (.iadd, 1) := by decide +kernel
theorem dX11_gone_29 : decode cX11_gone 29 = .ok (.istore_n 1, 1) := by decide +kernel
theorem dX11_gone_30 : decode cX11_gone 30 = .ok (.iinc 2 1, 3) := by decide +kernel
theorem dX11_gone_33 : decode cX11_gone 33 = .ok (.goto (-29), 3) := by decide +kernel
theorem dX11_gone_36 : decode cX11_gone 36 = .ok (.iload_n 1, 1) := by decide +kernel
theorem dX11_gone_37 : decode cX11_gone 37 = .ok (.ireturn, 1) := by decide +kernel
theorem dX11_remove_0 : decode cX11_remove 0 = .ok (.aload_n 0, 1) := by decide +kernel
theorem dX11_remove_1 : decode cX11_remove 1 = .ok (.iconst 0, 1) := by decide +kernel
theorem dX11_remove_2 : decode cX11_remove 2 = .ok (.putfield 117, 3) := by decide +kernel
theorem dX11_remove_5 : decode cX11_remove 5 = .ok (.aload_n 0, 1) := by decide +kernel
theorem dX11_remove_6 : decode cX11_remove 6 = .ok (.iload_n 1, 1) := by decide +kernel
theorem dX11_remove_7 : decode cX11_remove 7 = .ok (.iconst 0, 1) := by decide +kernel
theorem dX11_remove_8 : decode cX11_remove 8 = .ok (.aload_n 0, 1) := by decide +kernel
theorem dX11_remove_9 : decode cX11_remove 9 = .ok (.getfield 176, 3) := by decide +kernel
theorem dX11_remove_12 : decode cX11_remove 12 = .ok (.iconst 1, 1) := by decide +kernel
theorem dX11_remove_13 : decode cX11_remove 13 = .ok (.isub, 1) := by decide +kernel
theorem dX11_remove_14 : decode cX11_remove 14 = .ok (.invokestatic 172, 3) := by decide +kernel
theorem dX11_remove_17 : decode cX11_remove 17 = .ok (.ifCond .eq 13, 3) := by decide +kernel
theorem dX11_remove_20 : decode cX11_remove 20 = .ok (.aload_n 0, 1) := by decide +kernel
theorem dX11_remove_21 : decode cX11_remove 21 = .ok (.getfield 31, 3) := by decide +kernel
theorem dX11_remove_24 : decode cX11_remove 24 = .ok (.iload_n 1, 1) := by decide +kernel
theorem dX11_remove_25 : decode cX11_remove 25 = .ok (.iaload, 1) := by decide +kernel
theorem dX11_remove_26 : decode cX11_remove 26 = .ok (.iconst 1, 1) := by decide +kernel
theorem dX11_remove_27 : decode cX11_remove 27 = .ok (.if_icmp .eq 7, 3) := by decide +kernel
theorem dX11_remove_30 : decode cX11_remove 30 = .ok (.iconst 1, 1) := by decide +kernel
theorem dX11_remove_31 : decode cX11_remove 31 = .ok (.goto 4, 3) := by decide +kernel
theorem dX11_remove_34 : decode cX11_remove 34 = .ok (.iconst 0, 1) := by decide +kernel
theorem dX11_remove_35 : decode cX11_remove 35 = .ok (.iconst 1, 1) := by decide +kernel
theorem dX11_remove_36 : decode cX11_remove 36 = .ok (.iconst 0, 1) := by decide +kernel
theorem dX11_remove_37 : decode cX11_remove 37 = .ok (.invokevirtual 179, 3) := by decide +kernel
theorem dX11_remove_40 : decode cX11_remove 40 = .ok (.ifCond .eq 5, 3) := by decide +kernel
theorem dX11_remove_43 : decode cX11_remove 43 = .ok (.iconst 0, 1) := by decide +kernel
theorem dX11_remove_44 : decode cX11_remove 44 = .ok (.ireturn, 1) := by decide +kernel
theorem dX11_remove_45 : decode cX11_remove 45 = .ok (.aload_n 0, 1) := by decide +kernel
theorem dX11_remove_46 : decode cX11_remove 46 = .ok (.getfield 31, 3) := by decide +kernel
theorem dX11_remove_49 : decode cX11_remove 49 = .ok (.iload_n 1, 1) := by decide +kernel
theorem dX11_remove_50 : decode cX11_remove 50 = .ok (.iconst 2, 1) := by decide +kernel
theorem dX11_remove_51 : decode cX11_remove 51 = .ok (.iastore, 1) := by decide +kernel
theorem dX11_remove_52 : decode cX11_remove 52 = .ok (.aload_n 0, 1) := by decide +kernel
theorem dX11_remove_53 : decode cX11_remove 53 = .ok (.invokevirtual 390, 3) := by decide +kernel
theorem dX11_remove_56 : decode cX11_remove 56 = .ok (.ireturn, 1) := by decide +kernel
theorem dX11_repack_0 : decode cX11_repack 0 = .ok (.aload_n 0, 1) := by decide +kernel
theorem dX11_repack_1 : decode cX11_repack 1 = .ok (.iconst 0, 1) := by decide +kernel
theorem dX11_repack_2 : decode cX11_repack 2 = .ok (.putfield 117, 3) := by decide +kernel
theorem dX11_repack_5 : decode cX11_repack 5 = .ok (.aload_n 0, 1) := by decide +kernel
theorem dX11_repack_6 : decode cX11_repack 6 = .ok (.iload_n 1, 1) := by decide +kernel
theorem dX11_repack_7 : decode cX11_repack 7 = .ok (.iconst 2, 1) := by decide +kernel
theorem dX11_repack_8 : decode cX11_repack 8 = .ok (.bipush 8, 2) := by decide +kernel
theorem dX11_repack_10 : decode cX11_repack 10 = .ok (.invokestatic 172, 3) := by decide +kernel
theorem dX11_repack_13 : decode cX11_repack 13 = .ok (.ifCond .ne 7, 3) := by decide +kernel
theorem dX11_repack_16 : decode cX11_repack 16 = .ok (.iconst 1, 1) := by decide +kernel
theorem dX11_repack_17 : decode cX11_repack 17 = .ok (.goto 4, 3) := by decide +kernel
theorem dX11_repack_20 : decode cX11_repack 20 = .ok (.iconst 0, 1) := by decide +kernel
theorem dX11_repack_21 : decode cX11_repack 21 = .ok (.iconst 1, 1) := by decide +kernel
theorem dX11_repack_22 : decode cX11_repack 22 = .ok (.iconst 1, 1) := by decide +kernel
theorem dX11_repack_23 : decode cX11_repack 23 = .ok (.invokevirtual 179, 3) := by decide +kernel
theorem dX11_repack_26 : decode cX11_repack 26 = .ok (.ifCond .eq 5, 3) := by decide +kernel
theorem dX11_repack_29 : decode cX11_repack 29 = .ok (.iconst 0, 1) := by decide +kernel
theorem dX11_repack_30 : decode cX11_repack 30 = .ok (.ireturn, 1) := by decide +kernel
theorem dX11_repack_31 : decode cX11_repack 31 = .ok (.aload_n 0, 1) := by decide +kernel
theorem dX11_repack_32 : decode cX11_repack 32 = .ok (.invokevirtual 390, 3) := by decide +kernel
theorem dX11_repack_35 : decode cX11_repack 35 = .ok (.istore_n 2, 1) := by decide +kernel
theorem dX11_repack_36 : decode cX11_repack 36 = .ok (.iconst 0, 1) := by decide +kernel
theorem dX11_repack_37 : decode cX11_repack 37 = .ok (.istore_n 3, 1) := by decide +kernel
theorem dX11_repack_38 : decode cX11_repack 38 = .ok (.iload_n 3, 1) := by decide +kernel
theorem dX11_repack_39 : decode cX11_repack 39 = .ok (.aload_n 0, 1) := by decide +kernel
theorem dX11_repack_40 : decode cX11_repack 40 = .ok (.getfield 176, 3) := by decide +kernel
theorem dX11_repack_43 : decode cX11_repack 43 = .ok (.if_icmp .ge 35, 3) := by decide +kernel
theorem dX11_repack_46 : decode cX11_repack 46 = .ok (.aload_n 0, 1) := by decide +kernel
theorem dX11_repack_47 : decode cX11_repack 47 = .ok (.getfield 31, 3) := by decide +kernel
theorem dX11_repack_50 : decode cX11_repack 50 = .ok (.iload_n 3, 1) := by decide +kernel
theorem dX11_repack_51 : decode cX11_repack 51 = .ok (.aload_n 0, 1) := by decide +kernel
theorem dX11_repack_52 : decode cX11_repack 52 = .ok (.getfield 31, 3) := by decide +kernel
theorem dX11_repack_55 : decode cX11_repack 55 = .ok (.iload_n 3, 1) := by decide +kernel
theorem dX11_repack_56 : decode cX11_repack 56 = .ok (.iaload, 1) := by decide +kernel
theorem dX11_repack_57 : decode cX11_repack 57 = .ok (.iconst 2, 1) := by decide +kernel
theorem dX11_repack_58 : decode cX11_repack 58 = .ok (.if_icmp .ne 7, 3) := by decide +kernel
theorem dX11_repack_61 : decode cX11_repack 61 = .ok (.iconst 3, 1) := by decide +kernel
theorem dX11_repack_62 : decode cX11_repack 62 = .ok (.goto 9, 3) := by decide +kernel
theorem dX11_repack_65 : decode cX11_repack 65 = .ok (.aload_n 0, 1) := by decide +kernel
theorem dX11_repack_66 : decode cX11_repack 66 = .ok (.getfield 31, 3) := by decide +kernel
theorem dX11_repack_69 : decode cX11_repack 69 = .ok (.iload_n 3, 1) := by decide +kernel
theorem dX11_repack_70 : decode cX11_repack 70 = .ok (.iaload, 1) := by decide +kernel
theorem dX11_repack_71 : decode cX11_repack 71 = .ok (.iastore, 1) := by decide +kernel
theorem dX11_repack_72 : decode cX11_repack 72 = .ok (.iinc 3 1, 3) := by decide +kernel
theorem dX11_repack_75 : decode cX11_repack 75 = .ok (.goto (-37), 3) := by decide +kernel
theorem dX11_repack_78 : decode cX11_repack 78 = .ok (.aload_n 0, 1) := by decide +kernel
theorem dX11_repack_79 : decode cX11_repack 79 = .ok (.iload_n 1, 1) := by decide +kernel
theorem dX11_repack_80 : decode cX11_repack 80 = .ok (.putfield 20, 3) := by decide +kernel
theorem dX11_repack_83 : decode cX11_repack 83 = .ok (.iload_n 2, 1) := by decide +kernel
theorem dX11_repack_84 : decode cX11_repack 84 = .ok (.ireturn, 1) := by decide +kernel
theorem dX11_allPostings_0 : decode cX11_allPostings 0 = .ok (.iconst 0, 1) := by decide +kernel
theorem dX11_allPostings_1 : decode cX11_allPostings 1 = .ok (.istore_n 1, 1) := by decide +kernel
theorem dX11_allPostings_2 : decode cX11_allPostings 2 = .ok (.iconst 0, 1) := by decide +kernel
theorem dX11_allPostings_3 : decode cX11_allPostings 3 = .ok (.istore_n 2, 1) := by decide +kernel
theorem dX11_allPostings_4 : decode cX11_allPostings 4 = .ok (.iload_n 2, 1) := by decide +kernel
theorem dX11_allPostings_5 : decode cX11_allPostings 5 = .ok (.aload_n 0, 1) := by decide +kernel
theorem dX11_allPostings_6 : decode cX11_allPostings 6 = .ok (.getfield 162, 3) := by decide +kernel
theorem dX11_allPostings_9 : decode cX11_allPostings 9 = .ok (.if_icmp .ge 21, 3) := by decide +kernel
theorem dX11_allPostings_12 : decode cX11_allPostings 12 = .ok (.aload_n 0, 1) := by decide +kernel
theorem dX11_allPostings_13 : decode cX11_allPostings 13 = .ok (.iload_n 2, 1) := by decide +kernel
theorem dX11_allPostings_14 : decode cX11_allPostings 14 = .ok (.invokevirtual 252, 3) := by decide +kernel
theorem dX11_allPostings_17 : decode cX11_allPostings 17 = .ok (.iload_n 1, 1) := by decide +kernel
theorem dX11_allPostings_18 : decode cX11_allPostings 18 = .ok (.aload_n 0, 1) := by decide +kernel
theorem dX11_allPostings_19 : decode cX11_allPostings 19 = .ok (.getfield 249, 3) := by decide +kernel
theorem dX11_allPostings_22 : decode cX11_allPostings 22 = .ok (.iadd, 1) := by decide +kernel
theorem dX11_allPostings_23 : decode cX11_allPostings 23 = .ok (.istore_n 1, 1) := by decide +kernel
theorem dX11_allPostings_24 : decode cX11_allPostings 24 = .ok (.iinc 2 1, 3) := by decide +kernel
theorem dX11_allPostings_27 : decode cX11_allPostings 27 = .ok (.goto (-23), 3) := by decide +kernel
theorem dX11_allPostings_30 : decode cX11_allPostings 30 = .ok (.iload_n 1, 1) := by decide +kernel
theorem dX11_allPostings_31 : decode cX11_allPostings 31 = .ok (.ireturn, 1) := by decide +kernel
theorem dX11_allBlocks_0 : decode cX11_allBlocks 0 = .ok (.iconst 0, 1) := by decide +kernel
theorem dX11_allBlocks_1 : decode cX11_allBlocks 1 = .ok (.istore_n 1, 1) := by decide +kernel
theorem dX11_allBlocks_2 : decode cX11_allBlocks 2 = .ok (.iconst 0, 1) := by decide +kernel
theorem dX11_allBlocks_3 : decode cX11_allBlocks 3 = .ok (.istore_n 2, 1) := by decide +kernel
theorem dX11_allBlocks_4 : decode cX11_allBlocks 4 = .ok (.iload_n 2, 1) := by decide +kernel
theorem dX11_allBlocks_5 : decode cX11_allBlocks 5 = .ok (.aload_n 0, 1) := by decide +kernel
theorem dX11_allBlocks_6 : decode cX11_allBlocks 6 = .ok (.getfield 162, 3) := by decide +kernel
theorem dX11_allBlocks_9 : decode cX11_allBlocks 9 = .ok (.if_icmp .ge 28, 3) := by decide +kernel
theorem dX11_allBlocks_12 : decode cX11_allBlocks 12 = .ok (.aload_n 0, 1) := by decide +kernel
theorem dX11_allBlocks_13 : decode cX11_allBlocks 13 = .ok (.iload_n 2, 1) := by decide +kernel
theorem dX11_allBlocks_14 : decode cX11_allBlocks 14 = .ok (.invokevirtual 252, 3) := by decide +kernel
theorem dX11_allBlocks_17 : decode cX11_allBlocks 17 = .ok (.iload_n 1, 1) := by decide +kernel
theorem dX11_allBlocks_18 : decode cX11_allBlocks 18 = .ok (.aload_n 0, 1) := by decide +kernel
theorem dX11_allBlocks_19 : decode cX11_allBlocks 19 = .ok (.getfield 249, 3) := by decide +kernel
theorem dX11_allBlocks_22 : decode cX11_allBlocks 22 = .ok (.aload_n 0, 1) := by decide +kernel
theorem dX11_allBlocks_23 : decode cX11_allBlocks 23 = .ok (.getfield 20, 3) := by decide +kernel
theorem dX11_allBlocks_26 : decode cX11_allBlocks 26 = .ok (.invokestatic 314, 3) := by decide +kernel
theorem dX11_allBlocks_29 : decode cX11_allBlocks 29 = .ok (.iadd, 1) := by decide +kernel
theorem dX11_allBlocks_30 : decode cX11_allBlocks 30 = .ok (.istore_n 1, 1) := by decide +kernel
theorem dX11_allBlocks_31 : decode cX11_allBlocks 31 = .ok (.iinc 2 1, 3) := by decide +kernel
theorem dX11_allBlocks_34 : decode cX11_allBlocks 34 = .ok (.goto (-30), 3) := by decide +kernel
theorem dX11_allBlocks_37 : decode cX11_allBlocks 37 = .ok (.iload_n 1, 1) := by decide +kernel
theorem dX11_allBlocks_38 : decode cX11_allBlocks 38 = .ok (.ireturn, 1) := by decide +kernel
theorem dX11_told_0 : decode cX11_told 0 = .ok (.aload_n 0, 1) := by decide +kernel
theorem dX11_told_1 : decode cX11_told 1 = .ok (.iconst 0, 1) := by decide +kernel
theorem dX11_told_2 : decode cX11_told 2 = .ok (.putfield 117, 3) := by decide +kernel
theorem dX11_told_5 : decode cX11_told 5 = .ok (.aload_n 0, 1) := by decide +kernel
theorem dX11_told_6 : decode cX11_told 6 = .ok (.iload_n 1, 1) := by decide +kernel
theorem dX11_told_7 : decode cX11_told 7 = .ok (.iconst 0, 1) := by decide +kernel
theorem dX11_told_8 : decode cX11_told 8 = .ok (.bipush 9, 2) := by decide +kernel
theorem dX11_told_10 : decode cX11_told 10 = .ok (.invokestatic 172, 3) := by decide +kernel
theorem dX11_told_13 : decode cX11_told 13 = .ok (.ifCond .ne 7, 3) := by decide +kernel
theorem dX11_told_16 : decode cX11_told 16 = .ok (.iconst 1, 1) := by decide +kernel
theorem dX11_told_17 : decode cX11_told 17 = .ok (.goto 4, 3) := by decide +kernel
theorem dX11_told_20 : decode cX11_told 20 = .ok (.iconst 0, 1) := by decide +kernel
theorem dX11_told_21 : decode cX11_told 21 = .ok (.iconst 1, 1) := by decide +kernel
theorem dX11_told_22 : decode cX11_told 22 = .ok (.iconst 1, 1) := by decide +kernel
theorem dX11_told_23 : decode cX11_told 23 = .ok (.invokevirtual 179, 3) := by decide +kernel
theorem dX11_told_26 : decode cX11_told 26 = .ok (.ifCond .eq 5, 3) := by decide +kernel
theorem dX11_told_29 : decode cX11_told 29 = .ok (.iconst 0, 1) := by decide +kernel
theorem dX11_told_30 : decode cX11_told 30 = .ok (.ireturn, 1) := by decide +kernel
theorem dX11_told_31 : decode cX11_told 31 = .ok (.iload_n 1, 1) := by decide +kernel
theorem dX11_told_32 : decode cX11_told 32 = .ok (.tableswitch 101 0 8 #[52, 57, 62, 67, 72, 77, 86, 91, 96], 52) := by decide +kernel
theorem dX11_told_84 : decode cX11_told 84 = .ok (.aload_n 0, 1) := by decide +kernel
theorem dX11_told_85 : decode cX11_told 85 = .ok (.invokevirtual 255, 3) := by decide +kernel
theorem dX11_told_88 : decode cX11_told 88 = .ok (.ireturn, 1) := by decide +kernel
theorem dX11_told_89 : decode cX11_told 89 = .ok (.aload_n 0, 1) := by decide +kernel
theorem dX11_told_90 : decode cX11_told 90 = .ok (.invokevirtual 390, 3) := by decide +kernel
theorem dX11_told_93 : decode cX11_told 93 = .ok (.ireturn, 1) := by decide +kernel
theorem dX11_told_94 : decode cX11_told 94 = .ok (.aload_n 0, 1) := by decide +kernel
theorem dX11_told_95 : decode cX11_told 95 = .ok (.getfield 162, 3) := by decide +kernel
theorem dX11_told_98 : decode cX11_told 98 = .ok (.ireturn, 1) := by decide +kernel
theorem dX11_told_99 : decode cX11_told 99 = .ok (.aload_n 0, 1) := by decide +kernel
theorem dX11_told_100 : decode cX11_told 100 = .ok (.invokevirtual 393, 3) := by decide +kernel
theorem dX11_told_103 : decode cX11_told 103 = .ok (.ireturn, 1) := by decide +kernel
theorem dX11_told_104 : decode cX11_told 104 = .ok (.aload_n 0, 1) := by decide +kernel
theorem dX11_told_105 : decode cX11_told 105 = .ok (.invokevirtual 396, 3) := by decide +kernel
theorem dX11_told_108 : decode cX11_told 108 = .ok (.ireturn, 1) := by decide +kernel
theorem dX11_told_109 : decode cX11_told 109 = .ok (.aload_n 0, 1) := by decide +kernel
theorem dX11_told_110 : decode cX11_told 110 = .ok (.aload_n 0, 1) := by decide +kernel
theorem dX11_told_111 : decode cX11_told 111 = .ok (.getfield 20, 3) := by decide +kernel
theorem dX11_told_114 : decode cX11_told 114 = .ok (.invokevirtual 399, 3) := by decide +kernel
theorem dX11_told_117 : decode cX11_told 117 = .ok (.ireturn, 1) := by decide +kernel
theorem dX11_told_118 : decode cX11_told 118 = .ok (.aload_n 0, 1) := by decide +kernel
theorem dX11_told_119 : decode cX11_told 119 = .ok (.getfield 20, 3) := by decide +kernel
theorem dX11_told_122 : decode cX11_told 122 = .ok (.ireturn, 1) := by decide +kernel
theorem dX11_told_123 : decode cX11_told 123 = .ok (.aload_n 0, 1) := by decide +kernel
theorem dX11_told_124 : decode cX11_told 124 = .ok (.getfield 211, 3) := by decide +kernel
theorem dX11_told_127 : decode cX11_told 127 = .ok (.ireturn, 1) := by decide +kernel
theorem dX11_told_128 : decode cX11_told 128 = .ok (.aload_n 0, 1) := by decide +kernel
theorem dX11_told_129 : decode cX11_told 129 = .ok (.getfield 223, 3) := by decide +kernel
theorem dX11_told_132 : decode cX11_told 132 = .ok (.ireturn, 1) := by decide +kernel
theorem dX11_told_133 : decode cX11_told 133 = .ok (.aload_n 0, 1) := by decide +kernel
theorem dX11_told_134 : decode cX11_told 134 = .ok (.getfield 176, 3) := by decide +kernel
theorem dX11_told_137 : decode cX11_told 137 = .ok (.ireturn, 1) := by decide +kernel
theorem dX11_unlike_0 : decode cX11_unlike 0 = .ok (.iconst 0, 1) := by decide +kernel
theorem dX11_unlike_1 : decode cX11_unlike 1 = .ok (.istore_n 2, 1) := by decide +kernel
theorem dX11_unlike_2 : decode cX11_unlike 2 = .ok (.iconst 0, 1) := by decide +kernel
theorem dX11_unlike_3 : decode cX11_unlike 3 = .ok (.istore_n 3, 1) := by decide +kernel
theorem dX11_unlike_4 : decode cX11_unlike 4 = .ok (.iload_n 3, 1) := by decide +kernel
theorem dX11_unlike_5 : decode cX11_unlike 5 = .ok (.aload_n 0, 1) := by decide +kernel
theorem dX11_unlike_6 : decode cX11_unlike 6 = .ok (.getfield 162, 3) := by decide +kernel
theorem dX11_unlike_9 : decode cX11_unlike 9 = .ok (.if_icmp .ge 28, 3) := by decide +kernel
theorem dX11_unlike_12 : decode cX11_unlike 12 = .ok (.iload_n 2, 1) := by decide +kernel
theorem dX11_unlike_13 : decode cX11_unlike 13 = .ok (.aload_n 0, 1) := by decide +kernel
theorem dX11_unlike_14 : decode cX11_unlike 14 = .ok (.getfield 41, 3) := by decide +kernel
theorem dX11_unlike_17 : decode cX11_unlike 17 = .ok (.iload_n 3, 1) := by decide +kernel
theorem dX11_unlike_18 : decode cX11_unlike 18 = .ok (.aaload, 1) := by decide +kernel
theorem dX11_unlike_19 : decode cX11_unlike 19 = .ok (.iload_n 1, 1) := by decide +kernel
theorem dX11_unlike_20 : decode cX11_unlike 20 = .ok (.iaload, 1) := by decide +kernel
theorem dX11_unlike_21 : decode cX11_unlike 21 = .ok (.ifCond .le 7, 3) := by decide +kernel
theorem dX11_unlike_24 : decode cX11_unlike 24 = .ok (.iconst 1, 1) := by decide +kernel
theorem dX11_unlike_25 : decode cX11_unlike 25 = .ok (.goto 4, 3) := by decide +kernel
theorem dX11_unlike_28 : decode cX11_unlike 28 = .ok (.iconst 0, 1) := by decide +kernel
theorem dX11_unlike_29 : decode cX11_unlike 29 = .ok (.iadd, 1) := by decide +kernel
theorem dX11_unlike_30 : decode cX11_unlike 30 = .ok (.istore_n 2, 1) := by decide +kernel
theorem dX11_unlike_31 : decode cX11_unlike 31 = .ok (.iinc 3 1, 3) := by decide +kernel
theorem dX11_unlike_34 : decode cX11_unlike 34 = .ok (.goto (-30), 3) := by decide +kernel
theorem dX11_unlike_37 : decode cX11_unlike 37 = .ok (.iload_n 2, 1) := by decide +kernel
theorem dX11_unlike_38 : decode cX11_unlike 38 = .ok (.ireturn, 1) := by decide +kernel
theorem dX11_mostOften_0 : decode cX11_mostOften 0 = .ok (.iconst 0, 1) := by decide +kernel
theorem dX11_mostOften_1 : decode cX11_mostOften 1 = .ok (.istore_n 2, 1) := by decide +kernel
theorem dX11_mostOften_2 : decode cX11_mostOften 2 = .ok (.iconst 1, 1) := by decide +kernel
theorem dX11_mostOften_3 : decode cX11_mostOften 3 = .ok (.istore_n 3, 1) := by decide +kernel
theorem dX11_mostOften_4 : decode cX11_mostOften 4 = .ok (.iload_n 3, 1) := by decide +kernel
theorem dX11_mostOften_5 : decode cX11_mostOften 5 = .ok (.aload_n 0, 1) := by decide +kernel
theorem dX11_mostOften_6 : decode cX11_mostOften 6 = .ok (.getfield 162, 3) := by decide +kernel
theorem dX11_mostOften_9 : decode cX11_mostOften 9 = .ok (.if_icmp .ge 34, 3) := by decide +kernel
theorem dX11_mostOften_12 : decode cX11_mostOften 12 = .ok (.aload_n 0, 1) := by decide +kernel
theorem dX11_mostOften_13 : decode cX11_mostOften 13 = .ok (.getfield 41, 3) := by decide +kernel
theorem dX11_mostOften_16 : decode cX11_mostOften 16 = .ok (.iload_n 3, 1) := by decide +kernel
theorem dX11_mostOften_17 : decode cX11_mostOften 17 = .ok (.aaload, 1) := by decide +kernel
theorem dX11_mostOften_18 : decode cX11_mostOften 18 = .ok (.iload_n 1, 1) := by decide +kernel
theorem dX11_mostOften_19 : decode cX11_mostOften 19 = .ok (.iaload, 1) := by decide +kernel
theorem dX11_mostOften_20 : decode cX11_mostOften 20 = .ok (.aload_n 0, 1) := by decide +kernel
theorem dX11_mostOften_21 : decode cX11_mostOften 21 = .ok (.getfield 41, 3) := by decide +kernel
theorem dX11_mostOften_24 : decode cX11_mostOften 24 = .ok (.iload_n 2, 1) := by decide +kernel
theorem dX11_mostOften_25 : decode cX11_mostOften 25 = .ok (.aaload, 1) := by decide +kernel
theorem dX11_mostOften_26 : decode cX11_mostOften 26 = .ok (.iload_n 1, 1) := by decide +kernel
theorem dX11_mostOften_27 : decode cX11_mostOften 27 = .ok (.iaload, 1) := by decide +kernel
theorem dX11_mostOften_28 : decode cX11_mostOften 28 = .ok (.if_icmp .le 7, 3) := by decide +kernel
theorem dX11_mostOften_31 : decode cX11_mostOften 31 = .ok (.iload_n 3, 1) := by decide +kernel
theorem dX11_mostOften_32 : decode cX11_mostOften 32 = .ok (.goto 4, 3) := by decide +kernel
theorem dX11_mostOften_35 : decode cX11_mostOften 35 = .ok (.iload_n 2, 1) := by decide +kernel
theorem dX11_mostOften_36 : decode cX11_mostOften 36 = .ok (.istore_n 2, 1) := by decide +kernel
theorem dX11_mostOften_37 : decode cX11_mostOften 37 = .ok (.iinc 3 1, 3) := by decide +kernel
theorem dX11_mostOften_40 : decode cX11_mostOften 40 = .ok (.goto (-36), 3) := by decide +kernel
theorem dX11_mostOften_43 : decode cX11_mostOften 43 = .ok (.iload_n 2, 1) := by decide +kernel
theorem dX11_mostOften_44 : decode cX11_mostOften 44 = .ok (.ireturn, 1) := by decide +kernel
theorem dX11_document_0 : decode cX11_document 0 = .ok (.aload_n 0, 1) := by decide +kernel
theorem dX11_document_1 : decode cX11_document 1 = .ok (.iconst 0, 1) := by decide +kernel
theorem dX11_document_2 : decode cX11_document 2 = .ok (.putfield 117, 3) := by decide +kernel
theorem dX11_document_5 : decode cX11_document 5 = .ok (.aload_n 0, 1) := by decide +kernel
theorem dX11_document_6 : decode cX11_document 6 = .ok (.aload_n 0, 1) := by decide +kernel
theorem dX11_document_7 : decode cX11_document 7 = .ok (.iload_n 1, 1) := by decide +kernel
theorem dX11_document_8 : decode cX11_document 8 = .ok (.invokevirtual 402, 3) := by decide +kernel
theorem dX11_document_11 : decode cX11_document 11 = .ok (.ifCond .ne 7, 3) := by decide +kernel
theorem dX11_document_14 : decode cX11_document 14 = .ok (.iconst 1, 1) := by decide +kernel
theorem dX11_document_15 : decode cX11_document 15 = .ok (.goto 4, 3) := by decide +kernel
theorem dX11_document_18 : decode cX11_document 18 = .ok (.iconst 0, 1) := by decide +kernel
theorem dX11_document_19 : decode cX11_document 19 = .ok (.iconst 1, 1) := by decide +kernel
theorem dX11_document_20 : decode cX11_document 20 = .ok (.iconst 0, 1) := by decide +kernel
theorem dX11_document_21 : decode cX11_document 21 = .ok (.invokevirtual 179, 3) := by decide +kernel
theorem dX11_document_24 : decode cX11_document 24 = .ok (.ifCond .ne 26, 3) := by decide +kernel
theorem dX11_document_27 : decode cX11_document 27 = .ok (.aload_n 0, 1) := by decide +kernel
theorem dX11_document_28 : decode cX11_document 28 = .ok (.iload_n 2, 1) := by decide +kernel
theorem dX11_document_29 : decode cX11_document 29 = .ok (.iconst 0, 1) := by decide +kernel
theorem dX11_document_30 : decode cX11_document 30 = .ok (.iconst 4, 1) := by decide +kernel
theorem dX11_document_31 : decode cX11_document 31 = .ok (.invokestatic 172, 3) := by decide +kernel
theorem dX11_document_34 : decode cX11_document 34 = .ok (.ifCond .ne 7, 3) := by decide +kernel
theorem dX11_document_37 : decode cX11_document 37 = .ok (.iconst 1, 1) := by decide +kernel
theorem dX11_document_38 : decode cX11_document 38 = .ok (.goto 4, 3) := by decide +kernel
theorem dX11_document_41 : decode cX11_document 41 = .ok (.iconst 0, 1) := by decide +kernel
theorem dX11_document_42 : decode cX11_document 42 = .ok (.iconst 2, 1) := by decide +kernel
theorem dX11_document_43 : decode cX11_document 43 = .ok (.iconst 1, 1) := by decide +kernel
theorem dX11_document_44 : decode cX11_document 44 = .ok (.invokevirtual 179, 3) := by decide +kernel
theorem dX11_document_47 : decode cX11_document 47 = .ok (.ifCond .eq 5, 3) := by decide +kernel
theorem dX11_document_50 : decode cX11_document 50 = .ok (.iconst 0, 1) := by decide +kernel
theorem dX11_document_51 : decode cX11_document 51 = .ok (.ireturn, 1) := by decide +kernel
theorem dX11_document_52 : decode cX11_document 52 = .ok (.iload_n 2, 1) := by decide +kernel
theorem dX11_document_53 : decode cX11_document 53 = .ok (.tableswitch 66 0 3 #[31, 38, 44, 60], 31) := by decide +kernel
theorem dX11_document_84 : decode cX11_document 84 = .ok (.aload_n 0, 1) := by decide +kernel
theorem dX11_document_85 : decode cX11_document 85 = .ok (.getfield 28, 3) := by decide +kernel
theorem dX11_document_88 : decode cX11_document 88 = .ok (.iload_n 1, 1) := by decide +kernel
theorem dX11_document_89 : decode cX11_document 89 = .ok (.iaload, 1) := by decide +kernel
theorem dX11_document_90 : decode cX11_document 90 = .ok (.ireturn, 1) := by decide +kernel
theorem dX11_document_91 : decode cX11_document 91 = .ok (.aload_n 0, 1) := by decide +kernel
theorem dX11_document_92 : decode cX11_document 92 = .ok (.iload_n 1, 1) := by decide +kernel
theorem dX11_document_93 : decode cX11_document 93 = .ok (.invokevirtual 405, 3) := by decide +kernel
theorem dX11_document_96 : decode cX11_document 96 = .ok (.ireturn, 1) := by decide +kernel
theorem dX11_document_97 : decode cX11_document 97 = .ok (.aload_n 0, 1) := by decide +kernel
theorem dX11_document_98 : decode cX11_document 98 = .ok (.getfield 31, 3) := by decide +kernel
theorem dX11_document_101 : decode cX11_document 101 = .ok (.iload_n 1, 1) := by decide +kernel
theorem dX11_document_102 : decode cX11_document 102 = .ok (.iaload, 1) := by decide +kernel
theorem dX11_document_103 : decode cX11_document 103 = .ok (.iconst 2, 1) := by decide +kernel
theorem dX11_document_104 : decode cX11_document 104 = .ok (.if_icmp .ne 7, 3) := by decide +kernel
theorem dX11_document_107 : decode cX11_document 107 = .ok (.iconst 1, 1) := by decide +kernel
theorem dX11_document_108 : decode cX11_document 108 = .ok (.goto 4, 3) := by decide +kernel
theorem dX11_document_111 : decode cX11_document 111 = .ok (.iconst 0, 1) := by decide +kernel
theorem dX11_document_112 : decode cX11_document 112 = .ok (.ireturn, 1) := by decide +kernel
theorem dX11_document_113 : decode cX11_document 113 = .ok (.aload_n 0, 1) := by decide +kernel
theorem dX11_document_114 : decode cX11_document 114 = .ok (.iload_n 1, 1) := by decide +kernel
theorem dX11_document_115 : decode cX11_document 115 = .ok (.invokevirtual 408, 3) := by decide +kernel
theorem dX11_document_118 : decode cX11_document 118 = .ok (.ireturn, 1) := by decide +kernel
theorem dX11_document_119 : decode cX11_document 119 = .ok (.aload_n 0, 1) := by decide +kernel
theorem dX11_document_120 : decode cX11_document 120 = .ok (.getfield 41, 3) := by decide +kernel
theorem dX11_document_123 : decode cX11_document 123 = .ok (.aload_n 0, 1) := by decide +kernel
theorem dX11_document_124 : decode cX11_document 124 = .ok (.iload_n 1, 1) := by decide +kernel
theorem dX11_document_125 : decode cX11_document 125 = .ok (.invokevirtual 408, 3) := by decide +kernel
theorem dX11_document_128 : decode cX11_document 128 = .ok (.aaload, 1) := by decide +kernel
theorem dX11_document_129 : decode cX11_document 129 = .ok (.iload_n 1, 1) := by decide +kernel
theorem dX11_document_130 : decode cX11_document 130 = .ok (.iaload, 1) := by decide +kernel
theorem dX11_document_131 : decode cX11_document 131 = .ok (.ireturn, 1) := by decide +kernel
theorem dX11_at_0 : decode cX11_at 0 = .ok (.aload_n 0, 1) := by decide +kernel
theorem dX11_at_1 : decode cX11_at 1 = .ok (.iconst 0, 1) := by decide +kernel
theorem dX11_at_2 : decode cX11_at 2 = .ok (.putfield 117, 3) := by decide +kernel
theorem dX11_at_5 : decode cX11_at 5 = .ok (.aload_n 0, 1) := by decide +kernel
theorem dX11_at_6 : decode cX11_at 6 = .ok (.aload_n 0, 1) := by decide +kernel
theorem dX11_at_7 : decode cX11_at 7 = .ok (.iload_n 1, 1) := by decide +kernel
theorem dX11_at_8 : decode cX11_at 8 = .ok (.invokevirtual 402, 3) := by decide +kernel
theorem dX11_at_11 : decode cX11_at 11 = .ok (.ifCond .ne 7, 3) := by decide +kernel
theorem dX11_at_14 : decode cX11_at 14 = .ok (.iconst 1, 1) := by decide +kernel
theorem dX11_at_15 : decode cX11_at 15 = .ok (.goto 4, 3) := by decide +kernel
theorem dX11_at_18 : decode cX11_at 18 = .ok (.iconst 0, 1) := by decide +kernel
theorem dX11_at_19 : decode cX11_at 19 = .ok (.iconst 1, 1) := by decide +kernel
theorem dX11_at_20 : decode cX11_at 20 = .ok (.iconst 0, 1) := by decide +kernel
theorem dX11_at_21 : decode cX11_at 21 = .ok (.invokevirtual 179, 3) := by decide +kernel
theorem dX11_at_24 : decode cX11_at 24 = .ok (.ifCond .eq 5, 3) := by decide +kernel
theorem dX11_at_27 : decode cX11_at 27 = .ok (.iconst 0, 1) := by decide +kernel
theorem dX11_at_28 : decode cX11_at 28 = .ok (.ireturn, 1) := by decide +kernel
theorem dX11_at_29 : decode cX11_at 29 = .ok (.iload_n 2, 1) := by decide +kernel
theorem dX11_at_30 : decode cX11_at 30 = .ok (.iconst 0, 1) := by decide +kernel
theorem dX11_at_31 : decode cX11_at 31 = .ok (.aload_n 0, 1) := by decide +kernel
theorem dX11_at_32 : decode cX11_at 32 = .ok (.getfield 28, 3) := by decide +kernel
theorem dX11_at_35 : decode cX11_at 35 = .ok (.iload_n 1, 1) := by decide +kernel
theorem dX11_at_36 : decode cX11_at 36 = .ok (.iaload, 1) := by decide +kernel
theorem dX11_at_37 : decode cX11_at 37 = .ok (.iconst 1, 1) := by decide +kernel
theorem dX11_at_38 : decode cX11_at 38 = .ok (.isub, 1) := by decide +kernel
theorem dX11_at_39 : decode cX11_at 39 = .ok (.invokestatic 172, 3) := by decide +kernel
theorem dX11_at_42 : decode cX11_at 42 = .ok (.ifCond .eq 14, 3) := by decide +kernel
theorem dX11_at_45 : decode cX11_at 45 = .ok (.aload_n 0, 1) := by decide +kernel
theorem dX11_at_46 : decode cX11_at 46 = .ok (.getfield 25, 3) := by decide +kernel
theorem dX11_at_49 : decode cX11_at 49 = .ok (.iload_n 1, 1) := by decide +kernel
theorem dX11_at_50 : decode cX11_at 50 = .ok (.aaload, 1) := by decide +kernel
theorem dX11_at_51 : decode cX11_at 51 = .ok (.iload_n 2, 1) := by decide +kernel
theorem dX11_at_52 : decode cX11_at 52 = .ok (.iaload, 1) := by decide +kernel
theorem dX11_at_53 : decode cX11_at 53 = .ok (.goto 4, 3) := by decide +kernel
theorem dX11_at_56 : decode cX11_at 56 = .ok (.iconst (-1), 1) := by decide +kernel
theorem dX11_at_57 : decode cX11_at 57 = .ok (.ireturn, 1) := by decide +kernel
theorem dX11_timesInAll_0 : decode cX11_timesInAll 0 = .ok (.aload_n 0, 1) := by decide +kernel
theorem dX11_timesInAll_1 : decode cX11_timesInAll 1 = .ok (.iload_n 1, 1) := by decide +kernel
theorem dX11_timesInAll_2 : decode cX11_timesInAll 2 = .ok (.invokevirtual 252, 3) := by decide +kernel
theorem dX11_timesInAll_5 : decode cX11_timesInAll 5 = .ok (.iconst 0, 1) := by decide +kernel
theorem dX11_timesInAll_6 : decode cX11_timesInAll 6 = .ok (.istore_n 2, 1) := by decide +kernel
theorem dX11_timesInAll_7 : decode cX11_timesInAll 7 = .ok (.iconst 0, 1) := by decide +kernel
theorem dX11_timesInAll_8 : decode cX11_timesInAll 8 = .ok (.istore_n 3, 1) := by decide +kernel
theorem dX11_timesInAll_9 : decode cX11_timesInAll 9 = .ok (.iload_n 3, 1) := by decide +kernel
theorem dX11_timesInAll_10 : decode cX11_timesInAll 10 = .ok (.aload_n 0, 1) := by decide +kernel
theorem dX11_timesInAll_11 : decode cX11_timesInAll 11 = .ok (.getfield 249, 3) := by decide +kernel
theorem dX11_timesInAll_14 : decode cX11_timesInAll 14 = .ok (.if_icmp .ge 25, 3) := by decide +kernel
theorem dX11_timesInAll_17 : decode cX11_timesInAll 17 = .ok (.iload_n 2, 1) := by decide +kernel
theorem dX11_timesInAll_18 : decode cX11_timesInAll 18 = .ok (.aload_n 0, 1) := by decide +kernel
theorem dX11_timesInAll_19 : decode cX11_timesInAll 19 = .ok (.getfield 41, 3) := by decide +kernel
theorem dX11_timesInAll_22 : decode cX11_timesInAll 22 = .ok (.iload_n 1, 1) := by decide +kernel
theorem dX11_timesInAll_23 : decode cX11_timesInAll 23 = .ok (.aaload, 1) := by decide +kernel
theorem dX11_timesInAll_24 : decode cX11_timesInAll 24 = .ok (.aload_n 0, 1) := by decide +kernel
theorem dX11_timesInAll_25 : decode cX11_timesInAll 25 = .ok (.getfield 65, 3) := by decide +kernel
theorem dX11_timesInAll_28 : decode cX11_timesInAll 28 = .ok (.iload_n 3, 1) := by decide +kernel
theorem dX11_timesInAll_29 : decode cX11_timesInAll 29 = .ok (.iaload, 1) := by decide +kernel
theorem dX11_timesInAll_30 : decode cX11_timesInAll 30 = .ok (.iaload, 1) := by decide +kernel
theorem dX11_timesInAll_31 : decode cX11_timesInAll 31 = .ok (.iadd, 1) := by decide +kernel
theorem dX11_timesInAll_32 : decode cX11_timesInAll 32 = .ok (.istore_n 2, 1) := by decide +kernel
theorem dX11_timesInAll_33 : decode cX11_timesInAll 33 = .ok (.iinc 3 1, 3) := by decide +kernel
theorem dX11_timesInAll_36 : decode cX11_timesInAll 36 = .ok (.goto (-27), 3) := by decide +kernel
theorem dX11_timesInAll_39 : decode cX11_timesInAll 39 = .ok (.iload_n 2, 1) := by decide +kernel
theorem dX11_timesInAll_40 : decode cX11_timesInAll 40 = .ok (.ireturn, 1) := by decide +kernel
theorem dX11_topOfList_0 : decode cX11_topOfList 0 = .ok (.aload_n 0, 1) := by decide +kernel
theorem dX11_topOfList_1 : decode cX11_topOfList 1 = .ok (.iload_n 1, 1) := by decide +kernel
theorem dX11_topOfList_2 : decode cX11_topOfList 2 = .ok (.invokevirtual 252, 3) := by decide +kernel
theorem dX11_topOfList_5 : decode cX11_topOfList 5 = .ok (.aload_n 0, 1) := by decide +kernel
theorem dX11_topOfList_6 : decode cX11_topOfList 6 = .ok (.iload_n 1, 1) := by decide +kernel
theorem dX11_topOfList_7 : decode cX11_topOfList 7 = .ok (.iconst 0, 1) := by decide +kernel
theorem dX11_topOfList_8 : decode cX11_topOfList 8 = .ok (.aload_n 0, 1) := by decide +kernel
theorem dX11_topOfList_9 : decode cX11_topOfList 9 = .ok (.getfield 249, 3) := by decide +kernel
theorem dX11_topOfList_12 : decode cX11_topOfList 12 = .ok (.invokevirtual 411, 3) := by decide +kernel
theorem dX11_topOfList_15 : decode cX11_topOfList 15 = .ok (.ireturn, 1) := by decide +kernel
theorem dX11_word_0 : decode cX11_word 0 = .ok (.aload_n 0, 1) := by decide +kernel
theorem dX11_word_1 : decode cX11_word 1 = .ok (.iconst 0, 1) := by decide +kernel
theorem dX11_word_2 : decode cX11_word 2 = .ok (.putfield 117, 3) := by decide +kernel
theorem dX11_word_5 : decode cX11_word 5 = .ok (.aload_n 0, 1) := by decide +kernel
theorem dX11_word_6 : decode cX11_word 6 = .ok (.aload_n 0, 1) := by decide +kernel
theorem dX11_word_7 : decode cX11_word 7 = .ok (.iload_n 1, 1) := by decide +kernel
theorem dX11_word_8 : decode cX11_word 8 = .ok (.invokevirtual 414, 3) := by decide +kernel
theorem dX11_word_11 : decode cX11_word 11 = .ok (.ifCond .ne 7, 3) := by decide +kernel
theorem dX11_word_14 : decode cX11_word 14 = .ok (.iconst 1, 1) := by decide +kernel
theorem dX11_word_15 : decode cX11_word 15 = .ok (.goto 4, 3) := by decide +kernel
theorem dX11_word_18 : decode cX11_word 18 = .ok (.iconst 0, 1) := by decide +kernel
theorem dX11_word_19 : decode cX11_word 19 = .ok (.iconst 1, 1) := by decide +kernel
theorem dX11_word_20 : decode cX11_word 20 = .ok (.iconst 0, 1) := by decide +kernel
theorem dX11_word_21 : decode cX11_word 21 = .ok (.invokevirtual 179, 3) := by decide +kernel
theorem dX11_word_24 : decode cX11_word 24 = .ok (.ifCond .ne 27, 3) := by decide +kernel
theorem dX11_word_27 : decode cX11_word 27 = .ok (.aload_n 0, 1) := by decide +kernel
theorem dX11_word_28 : decode cX11_word 28 = .ok (.iload_n 2, 1) := by decide +kernel
theorem dX11_word_29 : decode cX11_word 29 = .ok (.iconst 0, 1) := by decide +kernel
theorem dX11_word_30 : decode cX11_word 30 = .ok (.bipush 6, 2) := by decide +kernel
theorem dX11_word_32 : decode cX11_word 32 = .ok (.invokestatic 172, 3) := by decide +kernel
theorem dX11_word_35 : decode cX11_word 35 = .ok (.ifCond .ne 7, 3) := by decide +kernel
theorem dX11_word_38 : decode cX11_word 38 = .ok (.iconst 1, 1) := by decide +kernel
theorem dX11_word_39 : decode cX11_word 39 = .ok (.goto 4, 3) := by decide +kernel
theorem dX11_word_42 : decode cX11_word 42 = .ok (.iconst 0, 1) := by decide +kernel
theorem dX11_word_43 : decode cX11_word 43 = .ok (.iconst 2, 1) := by decide +kernel
theorem dX11_word_44 : decode cX11_word 44 = .ok (.iconst 1, 1) := by decide +kernel
theorem dX11_word_45 : decode cX11_word 45 = .ok (.invokevirtual 179, 3) := by decide +kernel
theorem dX11_word_48 : decode cX11_word 48 = .ok (.ifCond .eq 5, 3) := by decide +kernel
theorem dX11_word_51 : decode cX11_word 51 = .ok (.iconst 0, 1) := by decide +kernel
theorem dX11_word_52 : decode cX11_word 52 = .ok (.ireturn, 1) := by decide +kernel
theorem dX11_word_53 : decode cX11_word 53 = .ok (.aload_n 0, 1) := by decide +kernel
theorem dX11_word_54 : decode cX11_word 54 = .ok (.iload_n 1, 1) := by decide +kernel
theorem dX11_word_55 : decode cX11_word 55 = .ok (.invokevirtual 252, 3) := by decide +kernel
theorem dX11_word_58 : decode cX11_word 58 = .ok (.iload_n 2, 1) := by decide +kernel
theorem dX11_word_59 : decode cX11_word 59 = .ok (.tableswitch 82 0 5 #[37, 42, 48, 60, 66, 72], 37) := by decide +kernel
theorem dX11_word_96 : decode cX11_word 96 = .ok (.aload_n 0, 1) := by decide +kernel
theorem dX11_word_97 : decode cX11_word 97 = .ok (.getfield 249, 3) := by decide +kernel
theorem dX11_word_100 : decode cX11_word 100 = .ok (.ireturn, 1) := by decide +kernel
theorem dX11_word_101 : decode cX11_word 101 = .ok (.aload_n 0, 1) := by decide +kernel
theorem dX11_word_102 : decode cX11_word 102 = .ok (.iload_n 1, 1) := by decide +kernel
theorem dX11_word_103 : decode cX11_word 103 = .ok (.invokevirtual 417, 3) := by decide +kernel
theorem dX11_word_106 : decode cX11_word 106 = .ok (.ireturn, 1) := by decide +kernel
theorem dX11_word_107 : decode cX11_word 107 = .ok (.aload_n 0, 1) := by decide +kernel
theorem dX11_word_108 : decode cX11_word 108 = .ok (.getfield 249, 3) := by decide +kernel
theorem dX11_word_111 : decode cX11_word 111 = .ok (.aload_n 0, 1) := by decide +kernel
theorem dX11_word_112 : decode cX11_word 112 = .ok (.getfield 20, 3) := by decide +kernel
theorem dX11_word_115 : decode cX11_word 115 = .ok (.invokestatic 314, 3) := by decide +kernel
theorem dX11_word_118 : decode cX11_word 118 = .ok (.ireturn, 1) := by decide +kernel
theorem dX11_word_119 : decode cX11_word 119 = .ok (.aload_n 0, 1) := by decide +kernel
theorem dX11_word_120 : decode cX11_word 120 = .ok (.iload_n 1, 1) := by decide +kernel
theorem dX11_word_121 : decode cX11_word 121 = .ok (.invokevirtual 420, 3) := by decide +kernel
theorem dX11_word_124 : decode cX11_word 124 = .ok (.ireturn, 1) := by decide +kernel
theorem dX11_word_125 : decode cX11_word 125 = .ok (.aload_n 0, 1) := by decide +kernel
theorem dX11_word_126 : decode cX11_word 126 = .ok (.iload_n 1, 1) := by decide +kernel
theorem dX11_word_127 : decode cX11_word 127 = .ok (.invokevirtual 290, 3) := by decide +kernel
theorem dX11_word_130 : decode cX11_word 130 = .ok (.ireturn, 1) := by decide +kernel
theorem dX11_word_131 : decode cX11_word 131 = .ok (.aload_n 0, 1) := by decide +kernel
theorem dX11_word_132 : decode cX11_word 132 = .ok (.iload_n 1, 1) := by decide +kernel
theorem dX11_word_133 : decode cX11_word 133 = .ok (.aload_n 0, 1) := by decide +kernel
theorem dX11_word_134 : decode cX11_word 134 = .ok (.getfield 20, 3) := by decide +kernel
theorem dX11_word_137 : decode cX11_word 137 = .ok (.invokevirtual 278, 3) := by decide +kernel
theorem dX11_word_140 : decode cX11_word 140 = .ok (.ireturn, 1) := by decide +kernel
theorem dX11_word_141 : decode cX11_word 141 = .ok (.aload_n 0, 1) := by decide +kernel
theorem dX11_word_142 : decode cX11_word 142 = .ok (.getfield 34, 3) := by decide +kernel
theorem dX11_word_145 : decode cX11_word 145 = .ok (.iload_n 1, 1) := by decide +kernel
theorem dX11_word_146 : decode cX11_word 146 = .ok (.iaload, 1) := by decide +kernel
theorem dX11_word_147 : decode cX11_word 147 = .ok (.ireturn, 1) := by decide +kernel
theorem dX11_letter_0 : decode cX11_letter 0 = .ok (.aload_n 0, 1) := by decide +kernel
theorem dX11_letter_1 : decode cX11_letter 1 = .ok (.iconst 0, 1) := by decide +kernel
theorem dX11_letter_2 : decode cX11_letter 2 = .ok (.putfield 117, 3) := by decide +kernel
theorem dX11_letter_5 : decode cX11_letter 5 = .ok (.aload_n 0, 1) := by decide +kernel
theorem dX11_letter_6 : decode cX11_letter 6 = .ok (.aload_n 0, 1) := by decide +kernel
theorem dX11_letter_7 : decode cX11_letter 7 = .ok (.iload_n 1, 1) := by decide +kernel
theorem dX11_letter_8 : decode cX11_letter 8 = .ok (.invokevirtual 414, 3) := by decide +kernel
theorem dX11_letter_11 : decode cX11_letter 11 = .ok (.ifCond .ne 7, 3) := by decide +kernel
theorem dX11_letter_14 : decode cX11_letter 14 = .ok (.iconst 1, 1) := by decide +kernel
theorem dX11_letter_15 : decode cX11_letter 15 = .ok (.goto 4, 3) := by decide +kernel
theorem dX11_letter_18 : decode cX11_letter 18 = .ok (.iconst 0, 1) := by decide +kernel
theorem dX11_letter_19 : decode cX11_letter 19 = .ok (.iconst 1, 1) := by decide +kernel
theorem dX11_letter_20 : decode cX11_letter 20 = .ok (.iconst 0, 1) := by decide +kernel
theorem dX11_letter_21 : decode cX11_letter 21 = .ok (.invokevirtual 179, 3) := by decide +kernel
theorem dX11_letter_24 : decode cX11_letter 24 = .ok (.ifCond .eq 5, 3) := by decide +kernel
theorem dX11_letter_27 : decode cX11_letter 27 = .ok (.iconst 0, 1) := by decide +kernel
theorem dX11_letter_28 : decode cX11_letter 28 = .ok (.ireturn, 1) := by decide +kernel
theorem dX11_letter_29 : decode cX11_letter 29 = .ok (.iload_n 2, 1) := by decide +kernel
theorem dX11_letter_30 : decode cX11_letter 30 = .ok (.iconst 0, 1) := by decide +kernel
theorem dX11_letter_31 : decode cX11_letter 31 = .ok (.aload_n 0, 1) := by decide +kernel
theorem dX11_letter_32 : decode cX11_letter 32 = .ok (.getfield 34, 3) := by decide +kernel
theorem dX11_letter_35 : decode cX11_letter 35 = .ok (.iload_n 1, 1) := by decide +kernel
theorem dX11_letter_36 : decode cX11_letter 36 = .ok (.iaload, 1) := by decide +kernel
theorem dX11_letter_37 : decode cX11_letter 37 = .ok (.iconst 1, 1) := by decide +kernel
theorem dX11_letter_38 : decode cX11_letter 38 = .ok (.isub, 1) := by decide +kernel
theorem dX11_letter_39 : decode cX11_letter 39 = .ok (.invokestatic 172, 3) := by decide +kernel
theorem dX11_letter_42 : decode cX11_letter 42 = .ok (.ifCond .ne 5, 3) := by decide +kernel
theorem dX11_letter_45 : decode cX11_letter 45 = .ok (.iconst (-1), 1) := by decide +kernel
theorem dX11_letter_46 : decode cX11_letter 46 = .ok (.ireturn, 1) := by decide +kernel
theorem dX11_letter_47 : decode cX11_letter 47 = .ok (.aload_n 0, 1) := by decide +kernel
theorem dX11_letter_48 : decode cX11_letter 48 = .ok (.getfield 37, 3) := by decide +kernel
theorem dX11_letter_51 : decode cX11_letter 51 = .ok (.iload_n 1, 1) := by decide +kernel
theorem dX11_letter_52 : decode cX11_letter 52 = .ok (.laload, 1) := by decide +kernel
theorem dX11_letter_53 : decode cX11_letter 53 = .ok (.lstore_n 3, 1) := by decide +kernel
theorem dX11_letter_54 : decode cX11_letter 54 = .ok (.aload_n 0, 1) := by decide +kernel
theorem dX11_letter_55 : decode cX11_letter 55 = .ok (.getfield 34, 3) := by decide +kernel
theorem dX11_letter_58 : decode cX11_letter 58 = .ok (.iload_n 1, 1) := by decide +kernel
theorem dX11_letter_59 : decode cX11_letter 59 = .ok (.iaload, 1) := by decide +kernel
theorem dX11_letter_60 : decode cX11_letter 60 = .ok (.iconst 1, 1) := by decide +kernel
theorem dX11_letter_61 : decode cX11_letter 61 = .ok (.isub, 1) := by decide +kernel
theorem dX11_letter_62 : decode cX11_letter 62 = .ok (.istore 5, 2) := by decide +kernel
theorem dX11_letter_64 : decode cX11_letter 64 = .ok (.iload 5, 2) := by decide +kernel
theorem dX11_letter_66 : decode cX11_letter 66 = .ok (.iload_n 2, 1) := by decide +kernel
theorem dX11_letter_67 : decode cX11_letter 67 = .ok (.if_icmp .le 15, 3) := by decide +kernel
theorem dX11_letter_70 : decode cX11_letter 70 = .ok (.lload_n 3, 1) := by decide +kernel
theorem dX11_letter_71 : decode cX11_letter 71 = .ok (.ldc2_w 158, 3) := by decide +kernel
theorem dX11_letter_74 : decode cX11_letter 74 = .ok (.ldiv, 1) := by decide +kernel
theorem dX11_letter_75 : decode cX11_letter 75 = .ok (.lstore_n 3, 1) := by decide +kernel
theorem dX11_letter_76 : decode cX11_letter 76 = .ok (.iinc 5 (-1), 3) := by decide +kernel
theorem dX11_letter_79 : decode cX11_letter 79 = .ok (.goto (-15), 3) := by decide +kernel
theorem dX11_letter_82 : decode cX11_letter 82 = .ok (.lload_n 3, 1) := by decide +kernel
theorem dX11_letter_83 : decode cX11_letter 83 = .ok (.ldc2_w 158, 3) := by decide +kernel
theorem dX11_letter_86 : decode cX11_letter 86 = .ok (.lrem, 1) := by decide +kernel
theorem dX11_letter_87 : decode cX11_letter 87 = .ok (.l2i, 1) := by decide +kernel
theorem dX11_letter_88 : decode cX11_letter 88 = .ok (.iconst 1, 1) := by decide +kernel
theorem dX11_letter_89 : decode cX11_letter 89 = .ok (.isub, 1) := by decide +kernel
theorem dX11_letter_90 : decode cX11_letter 90 = .ok (.ireturn, 1) := by decide +kernel
theorem dX11_isBlock_0 : decode cX11_isBlock 0 = .ok (.aload_n 0, 1) := by decide +kernel
theorem dX11_isBlock_1 : decode cX11_isBlock 1 = .ok (.iload_n 1, 1) := by decide +kernel
theorem dX11_isBlock_2 : decode cX11_isBlock 2 = .ok (.invokevirtual 414, 3) := by decide +kernel
theorem dX11_isBlock_5 : decode cX11_isBlock 5 = .ok (.ifCond .ne 5, 3) := by decide +kernel
theorem dX11_isBlock_8 : decode cX11_isBlock 8 = .ok (.iconst 0, 1) := by decide +kernel
theorem dX11_isBlock_9 : decode cX11_isBlock 9 = .ok (.ireturn, 1) := by decide +kernel
theorem dX11_isBlock_10 : decode cX11_isBlock 10 = .ok (.aload_n 0, 1) := by decide +kernel
theorem dX11_isBlock_11 : decode cX11_isBlock 11 = .ok (.iload_n 1, 1) := by decide +kernel
theorem dX11_isBlock_12 : decode cX11_isBlock 12 = .ok (.invokevirtual 252, 3) := by decide +kernel
theorem dX11_isBlock_15 : decode cX11_isBlock 15 = .ok (.iload_n 2, 1) := by decide +kernel
theorem dX11_isBlock_16 : decode cX11_isBlock 16 = .ok (.iconst 0, 1) := by decide +kernel
theorem dX11_isBlock_17 : decode cX11_isBlock 17 = .ok (.aload_n 0, 1) := by decide +kernel
theorem dX11_isBlock_18 : decode cX11_isBlock 18 = .ok (.getfield 249, 3) := by decide +kernel
theorem dX11_isBlock_21 : decode cX11_isBlock 21 = .ok (.aload_n 0, 1) := by decide +kernel
theorem dX11_isBlock_22 : decode cX11_isBlock 22 = .ok (.getfield 20, 3) := by decide +kernel
theorem dX11_isBlock_25 : decode cX11_isBlock 25 = .ok (.invokestatic 314, 3) := by decide +kernel
theorem dX11_isBlock_28 : decode cX11_isBlock 28 = .ok (.iconst 1, 1) := by decide +kernel
theorem dX11_isBlock_29 : decode cX11_isBlock 29 = .ok (.isub, 1) := by decide +kernel
theorem dX11_isBlock_30 : decode cX11_isBlock 30 = .ok (.invokestatic 172, 3) := by decide +kernel
theorem dX11_isBlock_33 : decode cX11_isBlock 33 = .ok (.ireturn, 1) := by decide +kernel
theorem dX11_block_0 : decode cX11_block 0 = .ok (.aload_n 0, 1) := by decide +kernel
theorem dX11_block_1 : decode cX11_block 1 = .ok (.iconst 0, 1) := by decide +kernel
theorem dX11_block_2 : decode cX11_block 2 = .ok (.putfield 117, 3) := by decide +kernel
theorem dX11_block_5 : decode cX11_block 5 = .ok (.aload_n 0, 1) := by decide +kernel
theorem dX11_block_6 : decode cX11_block 6 = .ok (.aload_n 0, 1) := by decide +kernel
theorem dX11_block_7 : decode cX11_block 7 = .ok (.iload_n 1, 1) := by decide +kernel
theorem dX11_block_8 : decode cX11_block 8 = .ok (.iload_n 2, 1) := by decide +kernel
theorem dX11_block_9 : decode cX11_block 9 = .ok (.invokevirtual 423, 3) := by decide +kernel
theorem dX11_block_12 : decode cX11_block 12 = .ok (.ifCond .ne 7, 3) := by decide +kernel
theorem dX11_block_15 : decode cX11_block 15 = .ok (.iconst 1, 1) := by decide +kernel
theorem dX11_block_16 : decode cX11_block 16 = .ok (.goto 4, 3) := by decide +kernel
theorem dX11_block_19 : decode cX11_block 19 = .ok (.iconst 0, 1) := by decide +kernel
theorem dX11_block_20 : decode cX11_block 20 = .ok (.iconst 1, 1) := by decide +kernel
theorem dX11_block_21 : decode cX11_block 21 = .ok (.iconst 0, 1) := by decide +kernel
theorem dX11_block_22 : decode cX11_block 22 = .ok (.invokevirtual 179, 3) := by decide +kernel
theorem dX11_block_25 : decode cX11_block 25 = .ok (.ifCond .ne 27, 3) := by decide +kernel
theorem dX11_block_28 : decode cX11_block 28 = .ok (.aload_n 0, 1) := by decide +kernel
theorem dX11_block_29 : decode cX11_block 29 = .ok (.iload_n 3, 1) := by decide +kernel
theorem dX11_block_30 : decode cX11_block 30 = .ok (.iconst 0, 1) := by decide +kernel
theorem dX11_block_31 : decode cX11_block 31 = .ok (.bipush 7, 2) := by decide +kernel
theorem dX11_block_33 : decode cX11_block 33 = .ok (.invokestatic 172, 3) := by decide +kernel
theorem dX11_block_36 : decode cX11_block 36 = .ok (.ifCond .ne 7, 3) := by decide +kernel
theorem dX11_block_39 : decode cX11_block 39 = .ok (.iconst 1, 1) := by decide +kernel
theorem dX11_block_40 : decode cX11_block 40 = .ok (.goto 4, 3) := by decide +kernel
theorem dX11_block_43 : decode cX11_block 43 = .ok (.iconst 0, 1) := by decide +kernel
theorem dX11_block_44 : decode cX11_block 44 = .ok (.iconst 2, 1) := by decide +kernel
theorem dX11_block_45 : decode cX11_block 45 = .ok (.iconst 1, 1) := by decide +kernel
theorem dX11_block_46 : decode cX11_block 46 = .ok (.invokevirtual 179, 3) := by decide +kernel
theorem dX11_block_49 : decode cX11_block 49 = .ok (.ifCond .eq 5, 3) := by decide +kernel
theorem dX11_block_52 : decode cX11_block 52 = .ok (.iconst 0, 1) := by decide +kernel
theorem dX11_block_53 : decode cX11_block 53 = .ok (.ireturn, 1) := by decide +kernel
theorem dX11_block_54 : decode cX11_block 54 = .ok (.iload_n 2, 1) := by decide +kernel
theorem dX11_block_55 : decode cX11_block 55 = .ok (.aload_n 0, 1) := by decide +kernel
theorem dX11_block_56 : decode cX11_block 56 = .ok (.getfield 20, 3) := by decide +kernel
theorem dX11_block_59 : decode cX11_block 59 = .ok (.imul, 1) := by decide +kernel
theorem dX11_block_60 : decode cX11_block 60 = .ok (.istore 4, 2) := by decide +kernel
theorem dX11_block_62 : decode cX11_block 62 = .ok (.aload_n 0, 1) := by decide +kernel
theorem dX11_block_63 : decode cX11_block 63 = .ok (.getfield 249, 3) := by decide +kernel
theorem dX11_block_66 : decode cX11_block 66 = .ok (.iload 4, 2) := by decide +kernel
theorem dX11_block_68 : decode cX11_block 68 = .ok (.aload_n 0, 1) := by decide +kernel
theorem dX11_block_69 : decode cX11_block 69 = .ok (.getfield 20, 3) := by decide +kernel
theorem dX11_block_72 : decode cX11_block 72 = .ok (.iadd, 1) := by decide +kernel
theorem dX11_block_73 : decode cX11_block 73 = .ok (.invokestatic 236, 3) := by decide +kernel
theorem dX11_block_76 : decode cX11_block 76 = .ok (.istore 5, 2) := by decide +kernel
theorem dX11_block_78 : decode cX11_block 78 = .ok (.iload_n 3, 1) := by decide +kernel
theorem dX11_block_79 : decode cX11_block 79 = .ok (.tableswitch 77 0 4 #[33, 41, 51, 57, 67], 33) := by decide +kernel
theorem dX11_block_112 : decode cX11_block 112 = .ok (.aload_n 0, 1) := by decide +kernel
theorem dX11_block_113 : decode cX11_block 113 = .ok (.getfield 65, 3) := by decide +kernel
theorem dX11_block_116 : decode cX11_block 116 = .ok (.iload 4, 2) := by decide +kernel
theorem dX11_block_118 : decode cX11_block 118 = .ok (.iaload, 1) := by decide +kernel
theorem dX11_block_119 : decode cX11_block 119 = .ok (.ireturn, 1) := by decide +kernel
theorem dX11_block_120 : decode cX11_block 120 = .ok (.aload_n 0, 1) := by decide +kernel
theorem dX11_block_121 : decode cX11_block 121 = .ok (.getfield 65, 3) := by decide +kernel
theorem dX11_block_124 : decode cX11_block 124 = .ok (.iload 5, 2) := by decide +kernel
theorem dX11_block_126 : decode cX11_block 126 = .ok (.iconst 1, 1) := by decide +kernel
theorem dX11_block_127 : decode cX11_block 127 = .ok (.isub, 1) := by decide +kernel
theorem dX11_block_128 : decode cX11_block 128 = .ok (.iaload, 1) := by decide +kernel
theorem dX11_block_129 : decode cX11_block 129 = .ok (.ireturn, 1) := by decide +kernel
theorem dX11_block_130 : decode cX11_block 130 = .ok (.iload 5, 2) := by decide +kernel
theorem dX11_block_132 : decode cX11_block 132 = .ok (.iload 4, 2) := by decide +kernel
theorem dX11_block_134 : decode cX11_block 134 = .ok (.isub, 1) := by decide +kernel
theorem dX11_block_135 : decode cX11_block 135 = .ok (.ireturn, 1) := by decide +kernel
theorem dX11_block_136 : decode cX11_block 136 = .ok (.aload_n 0, 1) := by decide +kernel
theorem dX11_block_137 : decode cX11_block 137 = .ok (.iload_n 1, 1) := by decide +kernel
theorem dX11_block_138 : decode cX11_block 138 = .ok (.iload 4, 2) := by decide +kernel
theorem dX11_block_140 : decode cX11_block 140 = .ok (.iload 5, 2) := by decide +kernel
theorem dX11_block_142 : decode cX11_block 142 = .ok (.invokevirtual 411, 3) := by decide +kernel
theorem dX11_block_145 : decode cX11_block 145 = .ok (.ireturn, 1) := by decide +kernel
theorem dX11_block_146 : decode cX11_block 146 = .ok (.aload_n 0, 1) := by decide +kernel
theorem dX11_block_147 : decode cX11_block 147 = .ok (.iload_n 1, 1) := by decide +kernel
theorem dX11_block_148 : decode cX11_block 148 = .ok (.iload 4, 2) := by decide +kernel
theorem dX11_block_150 : decode cX11_block 150 = .ok (.iload 5, 2) := by decide +kernel
theorem dX11_block_152 : decode cX11_block 152 = .ok (.invokevirtual 274, 3) := by decide +kernel
theorem dX11_block_155 : decode cX11_block 155 = .ok (.ireturn, 1) := by decide +kernel
theorem dX11_block_156 : decode cX11_block 156 = .ok (.aload_n 0, 1) := by decide +kernel
theorem dX11_block_157 : decode cX11_block 157 = .ok (.iload_n 1, 1) := by decide +kernel
theorem dX11_block_158 : decode cX11_block 158 = .ok (.iload 4, 2) := by decide +kernel
theorem dX11_block_160 : decode cX11_block 160 = .ok (.iload 5, 2) := by decide +kernel
theorem dX11_block_162 : decode cX11_block 162 = .ok (.iload_n 3, 1) := by decide +kernel
theorem dX11_block_163 : decode cX11_block 163 = .ok (.iconst 5, 1) := by decide +kernel
theorem dX11_block_164 : decode cX11_block 164 = .ok (.isub, 1) := by decide +kernel
theorem dX11_block_165 : decode cX11_block 165 = .ok (.invokevirtual 270, 3) := by decide +kernel
theorem dX11_block_168 : decode cX11_block 168 = .ok (.ireturn, 1) := by decide +kernel
theorem dX11_isPosting_0 : decode cX11_isPosting 0 = .ok (.aload_n 0, 1) := by decide +kernel
theorem dX11_isPosting_1 : decode cX11_isPosting 1 = .ok (.iload_n 1, 1) := by decide +kernel
theorem dX11_isPosting_2 : decode cX11_isPosting 2 = .ok (.invokevirtual 414, 3) := by decide +kernel
theorem dX11_isPosting_5 : decode cX11_isPosting 5 = .ok (.ifCond .ne 5, 3) := by decide +kernel
theorem dX11_isPosting_8 : decode cX11_isPosting 8 = .ok (.iconst 0, 1) := by decide +kernel
theorem dX11_isPosting_9 : decode cX11_isPosting 9 = .ok (.ireturn, 1) := by decide +kernel
theorem dX11_isPosting_10 : decode cX11_isPosting 10 = .ok (.aload_n 0, 1) := by decide +kernel
theorem dX11_isPosting_11 : decode cX11_isPosting 11 = .ok (.iload_n 1, 1) := by decide +kernel
theorem dX11_isPosting_12 : decode cX11_isPosting 12 = .ok (.invokevirtual 252, 3) := by decide +kernel
theorem dX11_isPosting_15 : decode cX11_isPosting 15 = .ok (.iload_n 2, 1) := by decide +kernel
theorem dX11_isPosting_16 : decode cX11_isPosting 16 = .ok (.iconst 0, 1) := by decide +kernel
theorem dX11_isPosting_17 : decode cX11_isPosting 17 = .ok (.aload_n 0, 1) := by decide +kernel
theorem dX11_isPosting_18 : decode cX11_isPosting 18 = .ok (.getfield 249, 3) := by decide +kernel
theorem dX11_isPosting_21 : decode cX11_isPosting 21 = .ok (.iconst 1, 1) := by decide +kernel
theorem dX11_isPosting_22 : decode cX11_isPosting 22 = .ok (.isub, 1) := by decide +kernel
theorem dX11_isPosting_23 : decode cX11_isPosting 23 = .ok (.invokestatic 172, 3) := by decide +kernel
theorem dX11_isPosting_26 : decode cX11_isPosting 26 = .ok (.ireturn, 1) := by decide +kernel
theorem dX11_posting_0 : decode cX11_posting 0 = .ok (.aload_n 0, 1) := by decide +kernel
theorem dX11_posting_1 : decode cX11_posting 1 = .ok (.iconst 0, 1) := by decide +kernel
theorem dX11_posting_2 : decode cX11_posting 2 = .ok (.putfield 117, 3) := by decide +kernel
theorem dX11_posting_5 : decode cX11_posting 5 = .ok (.aload_n 0, 1) := by decide +kernel
theorem dX11_posting_6 : decode cX11_posting 6 = .ok (.aload_n 0, 1) := by decide +kernel
theorem dX11_posting_7 : decode cX11_posting 7 = .ok (.iload_n 1, 1) := by decide +kernel
theorem dX11_posting_8 : decode cX11_posting 8 = .ok (.iload_n 2, 1) := by decide +kernel
theorem dX11_posting_9 : decode cX11_posting 9 = .ok (.invokevirtual 427, 3) := by decide +kernel
theorem dX11_posting_12 : decode cX11_posting 12 = .ok (.ifCond .ne 7, 3) := by decide +kernel
theorem dX11_posting_15 : decode cX11_posting 15 = .ok (.iconst 1, 1) := by decide +kernel
theorem dX11_posting_16 : decode cX11_posting 16 = .ok (.goto 4, 3) := by decide +kernel
theorem dX11_posting_19 : decode cX11_posting 19 = .ok (.iconst 0, 1) := by decide +kernel
theorem dX11_posting_20 : decode cX11_posting 20 = .ok (.iconst 1, 1) := by decide +kernel
theorem dX11_posting_21 : decode cX11_posting 21 = .ok (.iconst 0, 1) := by decide +kernel
theorem dX11_posting_22 : decode cX11_posting 22 = .ok (.invokevirtual 179, 3) := by decide +kernel
theorem dX11_posting_25 : decode cX11_posting 25 = .ok (.ifCond .ne 26, 3) := by decide +kernel
theorem dX11_posting_28 : decode cX11_posting 28 = .ok (.aload_n 0, 1) := by decide +kernel
theorem dX11_posting_29 : decode cX11_posting 29 = .ok (.iload_n 3, 1) := by decide +kernel
theorem dX11_posting_30 : decode cX11_posting 30 = .ok (.iconst 0, 1) := by decide +kernel
theorem dX11_posting_31 : decode cX11_posting 31 = .ok (.iconst 3, 1) := by decide +kernel
theorem dX11_posting_32 : decode cX11_posting 32 = .ok (.invokestatic 172, 3) := by decide +kernel
theorem dX11_posting_35 : decode cX11_posting 35 = .ok (.ifCond .ne 7, 3) := by decide +kernel
theorem dX11_posting_38 : decode cX11_posting 38 = .ok (.iconst 1, 1) := by decide +kernel
theorem dX11_posting_39 : decode cX11_posting 39 = .ok (.goto 4, 3) := by decide +kernel
theorem dX11_posting_42 : decode cX11_posting 42 = .ok (.iconst 0, 1) := by decide +kernel
theorem dX11_posting_43 : decode cX11_posting 43 = .ok (.iconst 2, 1) := by decide +kernel
theorem dX11_posting_44 : decode cX11_posting 44 = .ok (.iconst 1, 1) := by decide +kernel
theorem dX11_posting_45 : decode cX11_posting 45 = .ok (.invokevirtual 179, 3) := by decide +kernel
theorem dX11_posting_48 : decode cX11_posting 48 = .ok (.ifCond .eq 5, 3) := by decide +kernel
theorem dX11_posting_51 : decode cX11_posting 51 = .ok (.iconst 0, 1) := by decide +kernel
theorem dX11_posting_52 : decode cX11_posting 52 = .ok (.ireturn, 1) := by decide +kernel
theorem dX11_posting_53 : decode cX11_posting 53 = .ok (.iload_n 3, 1) := by decide +kernel
theorem dX11_posting_54 : decode cX11_posting 54 = .ok (.ifCond .ne 12, 3) := by decide +kernel
theorem dX11_posting_57 : decode cX11_posting 57 = .ok (.aload_n 0, 1) := by decide +kernel
theorem dX11_posting_58 : decode cX11_posting 58 = .ok (.getfield 65, 3) := by decide +kernel
theorem dX11_posting_61 : decode cX11_posting 61 = .ok (.iload_n 2, 1) := by decide +kernel
theorem dX11_posting_62 : decode cX11_posting 62 = .ok (.iaload, 1) := by decide +kernel
theorem dX11_posting_63 : decode cX11_posting 63 = .ok (.goto 49, 3) := by decide +kernel
theorem dX11_posting_66 : decode cX11_posting 66 = .ok (.iload_n 3, 1) := by decide +kernel
theorem dX11_posting_67 : decode cX11_posting 67 = .ok (.iconst 1, 1) := by decide +kernel
theorem dX11_posting_68 : decode cX11_posting 68 = .ok (.if_icmp .ne 19, 3) := by decide +kernel
theorem dX11_posting_71 : decode cX11_posting 71 = .ok (.aload_n 0, 1) := by decide +kernel
theorem dX11_posting_72 : decode cX11_posting 72 = .ok (.getfield 41, 3) := by decide +kernel
theorem dX11_posting_75 : decode cX11_posting 75 = .ok (.iload_n 1, 1) := by decide +kernel
theorem dX11_posting_76 : decode cX11_posting 76 = .ok (.aaload, 1) := by decide +kernel
theorem dX11_posting_77 : decode cX11_posting 77 = .ok (.aload_n 0, 1) := by decide +kernel
theorem dX11_posting_78 : decode cX11_posting 78 = .ok (.getfield 65, 3) := by decide +kernel
theorem dX11_posting_81 : decode cX11_posting 81 = .ok (.iload_n 2, 1) := by decide +kernel
theorem dX11_posting_82 : decode cX11_posting 82 = .ok (.iaload, 1) := by decide +kernel
theorem dX11_posting_83 : decode cX11_posting 83 = .ok (.iaload, 1) := by decide +kernel
theorem dX11_posting_84 : decode cX11_posting 84 = .ok (.goto 28, 3) := by decide +kernel
theorem dX11_posting_87 : decode cX11_posting 87 = .ok (.iload_n 3, 1) := by decide +kernel
theorem dX11_posting_88 : decode cX11_posting 88 = .ok (.iconst 2, 1) := by decide +kernel
theorem dX11_posting_89 : decode cX11_posting 89 = .ok (.if_icmp .ne 17, 3) := by decide +kernel
theorem dX11_posting_92 : decode cX11_posting 92 = .ok (.aload_n 0, 1) := by decide +kernel
theorem dX11_posting_93 : decode cX11_posting 93 = .ok (.iload_n 1, 1) := by decide +kernel
theorem dX11_posting_94 : decode cX11_posting 94 = .ok (.aload_n 0, 1) := by decide +kernel
theorem dX11_posting_95 : decode cX11_posting 95 = .ok (.getfield 65, 3) := by decide +kernel
theorem dX11_posting_98 : decode cX11_posting 98 = .ok (.iload_n 2, 1) := by decide +kernel
theorem dX11_posting_99 : decode cX11_posting 99 = .ok (.iaload, 1) := by decide +kernel
theorem dX11_posting_100 : decode cX11_posting 100 = .ok (.invokevirtual 258, 3) := by decide +kernel
theorem dX11_posting_103 : decode cX11_posting 103 = .ok (.goto 9, 3) := by decide +kernel
theorem dX11_posting_106 : decode cX11_posting 106 = .ok (.iload_n 2, 1) := by decide +kernel
theorem dX11_posting_107 : decode cX11_posting 107 = .ok (.aload_n 0, 1) := by decide +kernel
theorem dX11_posting_108 : decode cX11_posting 108 = .ok (.getfield 20, 3) := by decide +kernel
theorem dX11_posting_111 : decode cX11_posting 111 = .ok (.idiv, 1) := by decide +kernel
theorem dX11_posting_112 : decode cX11_posting 112 = .ok (.ireturn, 1) := by decide +kernel
theorem dX11_position_0 : decode cX11_position 0 = .ok (.aload_n 0, 1) := by decide +kernel
theorem dX11_position_1 : decode cX11_position 1 = .ok (.iconst 0, 1) := by decide +kernel
theorem dX11_position_2 : decode cX11_position 2 = .ok (.putfield 117, 3) := by decide +kernel
theorem dX11_position_5 : decode cX11_position 5 = .ok (.aload_n 0, 1) := by decide +kernel
theorem dX11_position_6 : decode cX11_position 6 = .ok (.aload_n 0, 1) := by decide +kernel
theorem dX11_position_7 : decode cX11_position 7 = .ok (.iload_n 1, 1) := by decide +kernel
theorem dX11_position_8 : decode cX11_position 8 = .ok (.iload_n 2, 1) := by decide +kernel
theorem dX11_position_9 : decode cX11_position 9 = .ok (.invokevirtual 427, 3) := by decide +kernel
theorem dX11_position_12 : decode cX11_position 12 = .ok (.ifCond .ne 7, 3) := by decide +kernel
theorem dX11_position_15 : decode cX11_position 15 = .ok (.iconst 1, 1) := by decide +kernel
theorem dX11_position_16 : decode cX11_position 16 = .ok (.goto 4, 3) := by decide +kernel
theorem dX11_position_19 : decode cX11_position 19 = .ok (.iconst 0, 1) := by decide +kernel
theorem dX11_position_20 : decode cX11_position 20 = .ok (.iconst 1, 1) := by decide +kernel
theorem dX11_position_21 : decode cX11_position 21 = .ok (.iconst 0, 1) := by decide +kernel
theorem dX11_position_22 : decode cX11_position 22 = .ok (.invokevirtual 179, 3) := by decide +kernel
theorem dX11_position_25 : decode cX11_position 25 = .ok (.ifCond .eq 5, 3) := by decide +kernel
theorem dX11_position_28 : decode cX11_position 28 = .ok (.iconst 0, 1) := by decide +kernel
theorem dX11_position_29 : decode cX11_position 29 = .ok (.ireturn, 1) := by decide +kernel
theorem dX11_position_30 : decode cX11_position 30 = .ok (.aload_n 0, 1) := by decide +kernel
theorem dX11_position_31 : decode cX11_position 31 = .ok (.getfield 65, 3) := by decide +kernel
theorem dX11_position_34 : decode cX11_position 34 = .ok (.iload_n 2, 1) := by decide +kernel
theorem dX11_position_35 : decode cX11_position 35 = .ok (.iaload, 1) := by decide +kernel
theorem dX11_position_36 : decode cX11_position 36 = .ok (.istore 4, 2) := by decide +kernel
theorem dX11_position_38 : decode cX11_position 38 = .ok (.iconst 0, 1) := by decide +kernel
theorem dX11_position_39 : decode cX11_position 39 = .ok (.istore 5, 2) := by decide +kernel
theorem dX11_position_41 : decode cX11_position 41 = .ok (.iconst 0, 1) := by decide +kernel
theorem dX11_position_42 : decode cX11_position 42 = .ok (.istore 6, 2) := by decide +kernel
theorem dX11_position_44 : decode cX11_position 44 = .ok (.iload 6, 2) := by decide +kernel
theorem dX11_position_46 : decode cX11_position 46 = .ok (.aload_n 0, 1) := by decide +kernel
theorem dX11_position_47 : decode cX11_position 47 = .ok (.getfield 28, 3) := by decide +kernel
theorem dX11_position_50 : decode cX11_position 50 = .ok (.iload 4, 2) := by decide +kernel
theorem dX11_position_52 : decode cX11_position 52 = .ok (.iaload, 1) := by decide +kernel
theorem dX11_position_53 : decode cX11_position 53 = .ok (.if_icmp .ge 38, 3) := by decide +kernel
theorem dX11_position_56 : decode cX11_position 56 = .ok (.aload_n 0, 1) := by decide +kernel
theorem dX11_position_57 : decode cX11_position 57 = .ok (.getfield 25, 3) := by decide +kernel
theorem dX11_position_60 : decode cX11_position 60 = .ok (.iload 4, 2) := by decide +kernel
theorem dX11_position_62 : decode cX11_position 62 = .ok (.aaload, 1) := by decide +kernel
theorem dX11_position_63 : decode cX11_position 63 = .ok (.iload 6, 2) := by decide +kernel
theorem dX11_position_65 : decode cX11_position 65 = .ok (.iaload, 1) := by decide +kernel
theorem dX11_position_66 : decode cX11_position 66 = .ok (.iload_n 1, 1) := by decide +kernel
theorem dX11_position_67 : decode cX11_position 67 = .ok (.if_icmp .eq 6, 3) := by decide +kernel
theorem dX11_position_70 : decode cX11_position 70 = .ok (.goto 15, 3) := by decide +kernel
theorem dX11_position_73 : decode cX11_position 73 = .ok (.iload 5, 2) := by decide +kernel
theorem dX11_position_75 : decode cX11_position 75 = .ok (.iload_n 3, 1) := by decide +kernel
theorem dX11_position_76 : decode cX11_position 76 = .ok (.if_icmp .ne 6, 3) := by decide +kernel
theorem dX11_position_79 : decode cX11_position 79 = .ok (.iload 6, 2) := by decide +kernel
theorem dX11_position_81 : decode cX11_position 81 = .ok (.ireturn, 1) := by decide +kernel
theorem dX11_position_82 : decode cX11_position 82 = .ok (.iinc 5 1, 3) := by decide +kernel
theorem dX11_position_85 : decode cX11_position 85 = .ok (.iinc 6 1, 3) := by decide +kernel
theorem dX11_position_88 : decode cX11_position 88 = .ok (.goto (-44), 3) := by decide +kernel
theorem dX11_position_91 : decode cX11_position 91 = .ok (.iconst (-1), 1) := by decide +kernel
theorem dX11_position_92 : decode cX11_position 92 = .ok (.ireturn, 1) := by decide +kernel
theorem dX11_ahead_0 : decode cX11_ahead 0 = .ok (.aload_n 0, 1) := by decide +kernel
theorem dX11_ahead_1 : decode cX11_ahead 1 = .ok (.iload_n 1, 1) := by decide +kernel
theorem dX11_ahead_2 : decode cX11_ahead 2 = .ok (.invokevirtual 252, 3) := by decide +kernel
theorem dX11_ahead_5 : decode cX11_ahead 5 = .ok (.aload_n 0, 1) := by decide +kernel
theorem dX11_ahead_6 : decode cX11_ahead 6 = .ok (.getfield 249, 3) := by decide +kernel
theorem dX11_ahead_9 : decode cX11_ahead 9 = .ok (.istore_n 2, 1) := by decide +kernel
theorem dX11_ahead_10 : decode cX11_ahead 10 = .ok (.iconst 0, 1) := by decide +kernel
theorem dX11_ahead_11 : decode cX11_ahead 11 = .ok (.istore_n 3, 1) := by decide +kernel
theorem dX11_ahead_12 : decode cX11_ahead 12 = .ok (.iconst 0, 1) := by decide +kernel
theorem dX11_ahead_13 : decode cX11_ahead 13 = .ok (.istore 4, 2) := by decide +kernel
theorem dX11_ahead_15 : decode cX11_ahead 15 = .ok (.iload 4, 2) := by decide +kernel
theorem dX11_ahead_17 : decode cX11_ahead 17 = .ok (.aload_n 0, 1) := by decide +kernel
theorem dX11_ahead_18 : decode cX11_ahead 18 = .ok (.getfield 162, 3) := by decide +kernel
theorem dX11_ahead_21 : decode cX11_ahead 21 = .ok (.if_icmp .ge 45, 3) := by decide +kernel
theorem dX11_ahead_24 : decode cX11_ahead 24 = .ok (.aload_n 0, 1) := by decide +kernel
theorem dX11_ahead_25 : decode cX11_ahead 25 = .ok (.iload 4, 2) := by decide +kernel
theorem dX11_ahead_27 : decode cX11_ahead 27 = .ok (.invokevirtual 252, 3) := by decide +kernel
theorem dX11_ahead_30 : decode cX11_ahead 30 = .ok (.iload_n 3, 1) := by decide +kernel
theorem dX11_ahead_31 : decode cX11_ahead 31 = .ok (.aload_n 0, 1) := by decide +kernel
theorem dX11_ahead_32 : decode cX11_ahead 32 = .ok (.getfield 249, 3) := by decide +kernel
theorem dX11_ahead_35 : decode cX11_ahead 35 = .ok (.iload_n 2, 1) := by decide +kernel
theorem dX11_ahead_36 : decode cX11_ahead 36 = .ok (.if_icmp .gt 17, 3) := by decide +kernel
theorem dX11_ahead_39 : decode cX11_ahead 39 = .ok (.aload_n 0, 1) := by decide +kernel
theorem dX11_ahead_40 : decode cX11_ahead 40 = .ok (.getfield 249, 3) := by decide +kernel
theorem dX11_ahead_43 : decode cX11_ahead 43 = .ok (.iload_n 2, 1) := by decide +kernel
theorem dX11_ahead_44 : decode cX11_ahead 44 = .ok (.if_icmp .ne 13, 3) := by decide +kernel
theorem dX11_ahead_47 : decode cX11_ahead 47 = .ok (.iload 4, 2) := by decide +kernel
theorem dX11_ahead_49 : decode cX11_ahead 49 = .ok (.iload_n 1, 1) := by decide +kernel
theorem dX11_ahead_50 : decode cX11_ahead 50 = .ok (.if_icmp .ge 7, 3) := by decide +kernel
theorem dX11_ahead_53 : decode cX11_ahead 53 = .ok (.iconst 1, 1) := by decide +kernel
theorem dX11_ahead_54 : decode cX11_ahead 54 = .ok (.goto 4, 3) := by decide +kernel
theorem dX11_ahead_57 : decode cX11_ahead 57 = .ok (.iconst 0, 1) := by decide +kernel
theorem dX11_ahead_58 : decode cX11_ahead 58 = .ok (.iadd, 1) := by decide +kernel
theorem dX11_ahead_59 : decode cX11_ahead 59 = .ok (.istore_n 3, 1) := by decide +kernel
theorem dX11_ahead_60 : decode cX11_ahead 60 = .ok (.iinc 4 1, 3) := by decide +kernel
theorem dX11_ahead_63 : decode cX11_ahead 63 = .ok (.goto (-48), 3) := by decide +kernel
theorem dX11_ahead_66 : decode cX11_ahead 66 = .ok (.iload_n 3, 1) := by decide +kernel
theorem dX11_ahead_67 : decode cX11_ahead 67 = .ok (.ireturn, 1) := by decide +kernel
theorem dX11_common_0 : decode cX11_common 0 = .ok (.aload_n 0, 1) := by decide +kernel
theorem dX11_common_1 : decode cX11_common 1 = .ok (.iconst 0, 1) := by decide +kernel
theorem dX11_common_2 : decode cX11_common 2 = .ok (.putfield 117, 3) := by decide +kernel
theorem dX11_common_5 : decode cX11_common 5 = .ok (.aload_n 0, 1) := by decide +kernel
theorem dX11_common_6 : decode cX11_common 6 = .ok (.aload_n 0, 1) := by decide +kernel
theorem dX11_common_7 : decode cX11_common 7 = .ok (.iload_n 1, 1) := by decide +kernel
theorem dX11_common_8 : decode cX11_common 8 = .ok (.invokevirtual 414, 3) := by decide +kernel
theorem dX11_common_11 : decode cX11_common 11 = .ok (.ifCond .ne 7, 3) := by decide +kernel
theorem dX11_common_14 : decode cX11_common 14 = .ok (.iconst 1, 1) := by decide +kernel
theorem dX11_common_15 : decode cX11_common 15 = .ok (.goto 4, 3) := by decide +kernel
theorem dX11_common_18 : decode cX11_common 18 = .ok (.iconst 0, 1) := by decide +kernel
theorem dX11_common_19 : decode cX11_common 19 = .ok (.iconst 1, 1) := by decide +kernel
theorem dX11_common_20 : decode cX11_common 20 = .ok (.iconst 0, 1) := by decide +kernel
theorem dX11_common_21 : decode cX11_common 21 = .ok (.invokevirtual 179, 3) := by decide +kernel
theorem dX11_common_24 : decode cX11_common 24 = .ok (.ifCond .eq 5, 3) := by decide +kernel
theorem dX11_common_27 : decode cX11_common 27 = .ok (.iconst 0, 1) := by decide +kernel
theorem dX11_common_28 : decode cX11_common 28 = .ok (.ireturn, 1) := by decide +kernel
theorem dX11_common_29 : decode cX11_common 29 = .ok (.iconst 0, 1) := by decide +kernel
theorem dX11_common_30 : decode cX11_common 30 = .ok (.istore_n 2, 1) := by decide +kernel
theorem dX11_common_31 : decode cX11_common 31 = .ok (.aload_n 0, 1) := by decide +kernel
theorem dX11_common_32 : decode cX11_common 32 = .ok (.iload_n 2, 1) := by decide +kernel
theorem dX11_common_33 : decode cX11_common 33 = .ok (.invokevirtual 430, 3) := by decide +kernel
theorem dX11_common_36 : decode cX11_common 36 = .ok (.iload_n 1, 1) := by decide +kernel
theorem dX11_common_37 : decode cX11_common 37 = .ok (.if_icmp .eq 9, 3) := by decide +kernel
theorem dX11_common_40 : decode cX11_common 40 = .ok (.iinc 2 1, 3) := by decide +kernel
theorem dX11_common_43 : decode cX11_common 43 = .ok (.goto (-12), 3) := by decide +kernel
theorem dX11_common_46 : decode cX11_common 46 = .ok (.iload_n 2, 1) := by decide +kernel
theorem dX11_common_47 : decode cX11_common 47 = .ok (.ireturn, 1) := by decide +kernel
theorem dX11_alike_0 : decode cX11_alike 0 = .ok (.aload_n 0, 1) := by decide +kernel
theorem dX11_alike_1 : decode cX11_alike 1 = .ok (.iconst 0, 1) := by decide +kernel
theorem dX11_alike_2 : decode cX11_alike 2 = .ok (.putfield 117, 3) := by decide +kernel
theorem dX11_alike_5 : decode cX11_alike 5 = .ok (.aload_n 0, 1) := by decide +kernel
theorem dX11_alike_6 : decode cX11_alike 6 = .ok (.aload_n 0, 1) := by decide +kernel
theorem dX11_alike_7 : decode cX11_alike 7 = .ok (.iload_n 1, 1) := by decide +kernel
theorem dX11_alike_8 : decode cX11_alike 8 = .ok (.invokevirtual 402, 3) := by decide +kernel
theorem dX11_alike_11 : decode cX11_alike 11 = .ok (.ifCond .eq 11, 3) := by decide +kernel
theorem dX11_alike_14 : decode cX11_alike 14 = .ok (.aload_n 0, 1) := by decide +kernel
theorem dX11_alike_15 : decode cX11_alike 15 = .ok (.iload_n 2, 1) := by decide +kernel
theorem dX11_alike_16 : decode cX11_alike 16 = .ok (.invokevirtual 402, 3) := by decide +kernel
theorem dX11_alike_19 : decode cX11_alike 19 = .ok (.ifCond .ne 7, 3) := by decide +kernel
theorem dX11_alike_22 : decode cX11_alike 22 = .ok (.iconst 1, 1) := by decide +kernel
theorem dX11_alike_23 : decode cX11_alike 23 = .ok (.goto 4, 3) := by decide +kernel
theorem dX11_alike_26 : decode cX11_alike 26 = .ok (.iconst 0, 1) := by decide +kernel
theorem dX11_alike_27 : decode cX11_alike 27 = .ok (.iconst 1, 1) := by decide +kernel
theorem dX11_alike_28 : decode cX11_alike 28 = .ok (.iconst 0, 1) := by decide +kernel
theorem dX11_alike_29 : decode cX11_alike 29 = .ok (.invokevirtual 179, 3) := by decide +kernel
theorem dX11_alike_32 : decode cX11_alike 32 = .ok (.ifCond .eq 5, 3) := by decide +kernel
theorem dX11_alike_35 : decode cX11_alike 35 = .ok (.iconst 0, 1) := by decide +kernel
theorem dX11_alike_36 : decode cX11_alike 36 = .ok (.ireturn, 1) := by decide +kernel
theorem dX11_alike_37 : decode cX11_alike 37 = .ok (.aload_n 0, 1) := by decide +kernel
theorem dX11_alike_38 : decode cX11_alike 38 = .ok (.iload_n 1, 1) := by decide +kernel
theorem dX11_alike_39 : decode cX11_alike 39 = .ok (.iload_n 2, 1) := by decide +kernel
theorem dX11_alike_40 : decode cX11_alike 40 = .ok (.invokevirtual 433, 3) := by decide +kernel
theorem dX11_alike_43 : decode cX11_alike 43 = .ok (.ireturn, 1) := by decide +kernel
theorem dX11_isMust_0 : decode cX11_isMust 0 = .ok (.iconst 0, 1) := by decide +kernel
theorem dX11_isMust_1 : decode cX11_isMust 1 = .ok (.istore_n 2, 1) := by decide +kernel
theorem dX11_isMust_2 : decode cX11_isMust 2 = .ok (.iload_n 2, 1) := by decide +kernel
theorem dX11_isMust_3 : decode cX11_isMust 3 = .ok (.aload_n 0, 1) := by decide +kernel
theorem dX11_isMust_4 : decode cX11_isMust 4 = .ok (.getfield 214, 3) := by decide +kernel
theorem dX11_isMust_7 : decode cX11_isMust 7 = .ok (.if_icmp .ge 21, 3) := by decide +kernel
theorem dX11_isMust_10 : decode cX11_isMust 10 = .ok (.aload_n 0, 1) := by decide +kernel
theorem dX11_isMust_11 : decode cX11_isMust 11 = .ok (.getfield 50, 3) := by decide +kernel
theorem dX11_isMust_14 : decode cX11_isMust 14 = .ok (.iload_n 2, 1) := by decide +kernel
theorem dX11_isMust_15 : decode cX11_isMust 15 = .ok (.iaload, 1) := by decide +kernel
theorem dX11_isMust_16 : decode cX11_isMust 16 = .ok (.iload_n 1, 1) := by decide +kernel
theorem dX11_isMust_17 : decode cX11_isMust 17 = .ok (.if_icmp .ne 5, 3) := by decide +kernel
theorem dX11_isMust_20 : decode cX11_isMust 20 = .ok (.iconst 1, 1) := by decide +kernel
theorem dX11_isMust_21 : decode cX11_isMust 21 = .ok (.ireturn, 1) := by decide +kernel
theorem dX11_isMust_22 : decode cX11_isMust 22 = .ok (.iinc 2 1, 3) := by decide +kernel
theorem dX11_isMust_25 : decode cX11_isMust 25 = .ok (.goto (-23), 3) := by decide +kernel
theorem dX11_isMust_28 : decode cX11_isMust 28 = .ok (.iconst 0, 1) := by decide +kernel
theorem dX11_isMust_29 : decode cX11_isMust 29 = .ok (.ireturn, 1) := by decide +kernel
theorem dX11_scored_0 : decode cX11_scored 0 = .ok (.aload_n 0, 1) := by decide +kernel
theorem dX11_scored_1 : decode cX11_scored 1 = .ok (.iconst 0, 1) := by decide +kernel
theorem dX11_scored_2 : decode cX11_scored 2 = .ok (.putfield 117, 3) := by decide +kernel
theorem dX11_scored_5 : decode cX11_scored 5 = .ok (.aload_n 0, 1) := by decide +kernel
theorem dX11_scored_6 : decode cX11_scored 6 = .ok (.iload_n 2, 1) := by decide +kernel
theorem dX11_scored_7 : decode cX11_scored 7 = .ok (.iconst 0, 1) := by decide +kernel
theorem dX11_scored_8 : decode cX11_scored 8 = .ok (.iconst 3, 1) := by decide +kernel
theorem dX11_scored_9 : decode cX11_scored 9 = .ok (.invokestatic 172, 3) := by decide +kernel
theorem dX11_scored_12 : decode cX11_scored 12 = .ok (.ifCond .ne 7, 3) := by decide +kernel
theorem dX11_scored_15 : decode cX11_scored 15 = .ok (.iconst 1, 1) := by decide +kernel
theorem dX11_scored_16 : decode cX11_scored 16 = .ok (.goto 4, 3) := by decide +kernel
theorem dX11_scored_19 : decode cX11_scored 19 = .ok (.iconst 0, 1) := by decide +kernel
theorem dX11_scored_20 : decode cX11_scored 20 = .ok (.iconst 1, 1) := by decide +kernel
theorem dX11_scored_21 : decode cX11_scored 21 = .ok (.iconst 1, 1) := by decide +kernel
theorem dX11_scored_22 : decode cX11_scored 22 = .ok (.invokevirtual 179, 3) := by decide +kernel
theorem dX11_scored_25 : decode cX11_scored 25 = .ok (.ifCond .eq 5, 3) := by decide +kernel
theorem dX11_scored_28 : decode cX11_scored 28 = .ok (.iconst 0, 1) := by decide +kernel
theorem dX11_scored_29 : decode cX11_scored 29 = .ok (.ireturn, 1) := by decide +kernel
theorem dX11_scored_30 : decode cX11_scored 30 = .ok (.iload_n 1, 1) := by decide +kernel
theorem dX11_scored_31 : decode cX11_scored 31 = .ok (.iconst 0, 1) := by decide +kernel
theorem dX11_scored_32 : decode cX11_scored 32 = .ok (.aload_n 0, 1) := by decide +kernel
theorem dX11_scored_33 : decode cX11_scored 33 = .ok (.getfield 211, 3) := by decide +kernel
theorem dX11_scored_36 : decode cX11_scored 36 = .ok (.iconst 1, 1) := by decide +kernel
theorem dX11_scored_37 : decode cX11_scored 37 = .ok (.isub, 1) := by decide +kernel
theorem dX11_scored_38 : decode cX11_scored 38 = .ok (.invokestatic 172, 3) := by decide +kernel
theorem dX11_scored_41 : decode cX11_scored 41 = .ok (.ifCond .ne 5, 3) := by decide +kernel
theorem dX11_scored_44 : decode cX11_scored 44 = .ok (.iconst (-1), 1) := by decide +kernel
theorem dX11_scored_45 : decode cX11_scored 45 = .ok (.ireturn, 1) := by decide +kernel
theorem dX11_scored_46 : decode cX11_scored 46 = .ok (.aload_n 0, 1) := by decide +kernel
theorem dX11_scored_47 : decode cX11_scored 47 = .ok (.getfield 44, 3) := by decide +kernel
theorem dX11_scored_50 : decode cX11_scored 50 = .ok (.iload_n 1, 1) := by decide +kernel
theorem dX11_scored_51 : decode cX11_scored 51 = .ok (.iaload, 1) := by decide +kernel
theorem dX11_scored_52 : decode cX11_scored 52 = .ok (.istore_n 3, 1) := by decide +kernel
theorem dX11_scored_53 : decode cX11_scored 53 = .ok (.iload_n 2, 1) := by decide +kernel
theorem dX11_scored_54 : decode cX11_scored 54 = .ok (.ifCond .ne 7, 3) := by decide +kernel
theorem dX11_scored_57 : decode cX11_scored 57 = .ok (.iload_n 3, 1) := by decide +kernel
theorem dX11_scored_58 : decode cX11_scored 58 = .ok (.goto 56, 3) := by decide +kernel
theorem dX11_scored_61 : decode cX11_scored 61 = .ok (.iload_n 2, 1) := by decide +kernel
theorem dX11_scored_62 : decode cX11_scored 62 = .ok (.iconst 1, 1) := by decide +kernel
theorem dX11_scored_63 : decode cX11_scored 63 = .ok (.if_icmp .ne 12, 3) := by decide +kernel
theorem dX11_scored_66 : decode cX11_scored 66 = .ok (.aload_n 0, 1) := by decide +kernel
theorem dX11_scored_67 : decode cX11_scored 67 = .ok (.getfield 47, 3) := by decide +kernel
theorem dX11_scored_70 : decode cX11_scored 70 = .ok (.iload_n 1, 1) := by decide +kernel
theorem dX11_scored_71 : decode cX11_scored 71 = .ok (.iaload, 1) := by decide +kernel
theorem dX11_scored_72 : decode cX11_scored 72 = .ok (.goto 42, 3) := by decide +kernel
theorem dX11_scored_75 : decode cX11_scored 75 = .ok (.iload_n 2, 1) := by decide +kernel
theorem dX11_scored_76 : decode cX11_scored 76 = .ok (.iconst 2, 1) := by decide +kernel
theorem dX11_scored_77 : decode cX11_scored 77 = .ok (.if_icmp .ne 19, 3) := by decide +kernel
theorem dX11_scored_80 : decode cX11_scored 80 = .ok (.aload_n 0, 1) := by decide +kernel
theorem dX11_scored_81 : decode cX11_scored 81 = .ok (.iload_n 3, 1) := by decide +kernel
theorem dX11_scored_82 : decode cX11_scored 82 = .ok (.invokevirtual 436, 3) := by decide +kernel
theorem dX11_scored_85 : decode cX11_scored 85 = .ok (.ifCond .eq 7, 3) := by decide +kernel
theorem dX11_scored_88 : decode cX11_scored 88 = .ok (.iconst 1, 1) := by decide +kernel
theorem dX11_scored_89 : decode cX11_scored 89 = .ok (.goto 25, 3) := by decide +kernel
theorem dX11_scored_92 : decode cX11_scored 92 = .ok (.iconst 0, 1) := by decide +kernel
theorem dX11_scored_93 : decode cX11_scored 93 = .ok (.goto 21, 3) := by decide +kernel
theorem dX11_scored_96 : decode cX11_scored 96 = .ok (.aload_n 0, 1) := by decide +kernel
theorem dX11_scored_97 : decode cX11_scored 97 = .ok (.getfield 47, 3) := by decide +kernel
theorem dX11_scored_100 : decode cX11_scored 100 = .ok (.iload_n 1, 1) := by decide +kernel
theorem dX11_scored_101 : decode cX11_scored 101 = .ok (.iaload, 1) := by decide +kernel
theorem dX11_scored_102 : decode cX11_scored 102 = .ok (.aload_n 0, 1) := by decide +kernel
theorem dX11_scored_103 : decode cX11_scored 103 = .ok (.iload_n 3, 1) := by decide +kernel
theorem dX11_scored_104 : decode cX11_scored 104 = .ok (.invokevirtual 290, 3) := by decide +kernel
theorem dX11_scored_107 : decode cX11_scored 107 = .ok (.imul, 1) := by decide +kernel
theorem dX11_scored_108 : decode cX11_scored 108 = .ok (.aload_n 0, 1) := by decide +kernel
theorem dX11_scored_109 : decode cX11_scored 109 = .ok (.iload_n 3, 1) := by decide +kernel
theorem dX11_scored_110 : decode cX11_scored 110 = .ok (.invokevirtual 420, 3) := by decide +kernel
theorem dX11_scored_113 : decode cX11_scored 113 = .ok (.imul, 1) := by decide +kernel
theorem dX11_scored_114 : decode cX11_scored 114 = .ok (.ireturn, 1) := by decide +kernel
theorem dX11_why_0 : decode cX11_why 0 = .ok (.aload_n 0, 1) := by decide +kernel
theorem dX11_why_1 : decode cX11_why 1 = .ok (.iconst 0, 1) := by decide +kernel
theorem dX11_why_2 : decode cX11_why 2 = .ok (.putfield 117, 3) := by decide +kernel
theorem dX11_why_5 : decode cX11_why 5 = .ok (.aload_n 0, 1) := by decide +kernel
theorem dX11_why_6 : decode cX11_why 6 = .ok (.aload_n 0, 1) := by decide +kernel
theorem dX11_why_7 : decode cX11_why 7 = .ok (.iload_n 1, 1) := by decide +kernel
theorem dX11_why_8 : decode cX11_why 8 = .ok (.invokevirtual 402, 3) := by decide +kernel
