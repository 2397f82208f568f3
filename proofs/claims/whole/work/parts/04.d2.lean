theorem dX10_thrift_31 : decode cX10_thrift 31 = .ok (.iload_n 2, 1) := by decide +kernel
theorem dX10_thrift_32 : decode cX10_thrift 32 = .ok (.if_icmp .ge 8, 3) := by decide +kernel
theorem dX10_thrift_35 : decode cX10_thrift 35 = .ok (.iload 4, 2) := by decide +kernel
theorem dX10_thrift_37 : decode cX10_thrift 37 = .ok (.istore_n 2, 1) := by decide +kernel
theorem dX10_thrift_38 : decode cX10_thrift 38 = .ok (.iload_n 3, 1) := by decide +kernel
theorem dX10_thrift_39 : decode cX10_thrift 39 = .ok (.istore_n 1, 1) := by decide +kernel
theorem dX10_thrift_40 : decode cX10_thrift 40 = .ok (.iinc 3 1, 3) := by decide +kernel
theorem dX10_thrift_43 : decode cX10_thrift 43 = .ok (.goto (-30), 3) := by decide +kernel
theorem dX10_thrift_46 : decode cX10_thrift 46 = .ok (.iload_n 1, 1) := by decide +kernel
theorem dX10_thrift_47 : decode cX10_thrift 47 = .ok (.ireturn, 1) := by decide +kernel
theorem dX10_swift_0 : decode cX10_swift 0 = .ok (.aload_n 0, 1) := by decide +kernel
theorem dX10_swift_1 : decode cX10_swift 1 = .ok (.iload_n 1, 1) := by decide +kernel
theorem dX10_swift_2 : decode cX10_swift 2 = .ok (.iconst 1, 1) := by decide +kernel
theorem dX10_swift_3 : decode cX10_swift 3 = .ok (.bipush 10, 2) := by decide +kernel
theorem dX10_swift_5 : decode cX10_swift 5 = .ok (.invokevirtual 106, 3) := by decide +kernel
theorem dX10_swift_8 : decode cX10_swift 8 = .ok (.aload_n 0, 1) := by decide +kernel
theorem dX10_swift_9 : decode cX10_swift 9 = .ok (.iload_n 2, 1) := by decide +kernel
theorem dX10_swift_10 : decode cX10_swift 10 = .ok (.iconst 0, 1) := by decide +kernel
theorem dX10_swift_11 : decode cX10_swift 11 = .ok (.iconst 1, 1) := by decide +kernel
theorem dX10_swift_12 : decode cX10_swift 12 = .ok (.invokevirtual 106, 3) := by decide +kernel
theorem dX10_swift_15 : decode cX10_swift 15 = .ok (.iconst 2, 1) := by decide +kernel
theorem dX10_swift_16 : decode cX10_swift 16 = .ok (.istore_n 3, 1) := by decide +kernel
theorem dX10_swift_17 : decode cX10_swift 17 = .ok (.aload_n 0, 1) := by decide +kernel
theorem dX10_swift_18 : decode cX10_swift 18 = .ok (.iload_n 1, 1) := by decide +kernel
theorem dX10_swift_19 : decode cX10_swift 19 = .ok (.iconst 2, 1) := by decide +kernel
theorem dX10_swift_20 : decode cX10_swift 20 = .ok (.invokevirtual 390, 3) := by decide +kernel
theorem dX10_swift_23 : decode cX10_swift 23 = .ok (.istore 4, 2) := by decide +kernel
theorem dX10_swift_25 : decode cX10_swift 25 = .ok (.iconst 3, 1) := by decide +kernel
theorem dX10_swift_26 : decode cX10_swift 26 = .ok (.istore 5, 2) := by decide +kernel
theorem dX10_swift_28 : decode cX10_swift 28 = .ok (.iload 5, 2) := by decide +kernel
theorem dX10_swift_30 : decode cX10_swift 30 = .ok (.bipush 8, 2) := by decide +kernel
theorem dX10_swift_32 : decode cX10_swift 32 = .ok (.if_icmp .gt 32, 3) := by decide +kernel
theorem dX10_swift_35 : decode cX10_swift 35 = .ok (.aload_n 0, 1) := by decide +kernel
theorem dX10_swift_36 : decode cX10_swift 36 = .ok (.iload_n 1, 1) := by decide +kernel
theorem dX10_swift_37 : decode cX10_swift 37 = .ok (.iload 5, 2) := by decide +kernel
theorem dX10_swift_39 : decode cX10_swift 39 = .ok (.invokevirtual 390, 3) := by decide +kernel
theorem dX10_swift_42 : decode cX10_swift 42 = .ok (.istore 6, 2) := by decide +kernel
theorem dX10_swift_44 : decode cX10_swift 44 = .ok (.iload 6, 2) := by decide +kernel
theorem dX10_swift_46 : decode cX10_swift 46 = .ok (.iload 4, 2) := by decide +kernel
theorem dX10_swift_48 : decode cX10_swift 48 = .ok (.if_icmp .ge 10, 3) := by decide +kernel
theorem dX10_swift_51 : decode cX10_swift 51 = .ok (.iload 6, 2) := by decide +kernel
theorem dX10_swift_53 : decode cX10_swift 53 = .ok (.istore 4, 2) := by decide +kernel
theorem dX10_swift_55 : decode cX10_swift 55 = .ok (.iload 5, 2) := by decide +kernel
theorem dX10_swift_57 : decode cX10_swift 57 = .ok (.istore_n 3, 1) := by decide +kernel
theorem dX10_swift_58 : decode cX10_swift 58 = .ok (.iinc 5 1, 3) := by decide +kernel
theorem dX10_swift_61 : decode cX10_swift 61 = .ok (.goto (-33), 3) := by decide +kernel
theorem dX10_swift_64 : decode cX10_swift 64 = .ok (.iload_n 2, 1) := by decide +kernel
theorem dX10_swift_65 : decode cX10_swift 65 = .ok (.ifCond .ne 7, 3) := by decide +kernel
theorem dX10_swift_68 : decode cX10_swift 68 = .ok (.iload_n 3, 1) := by decide +kernel
theorem dX10_swift_69 : decode cX10_swift 69 = .ok (.goto 5, 3) := by decide +kernel
theorem dX10_swift_72 : decode cX10_swift 72 = .ok (.iload 4, 2) := by decide +kernel
theorem dX10_swift_74 : decode cX10_swift 74 = .ok (.ireturn, 1) := by decide +kernel
theorem dX10_blockOf_0 : decode cX10_blockOf 0 = .ok (.aload_n 0, 1) := by decide +kernel
theorem dX10_blockOf_1 : decode cX10_blockOf 1 = .ok (.iload_n 1, 1) := by decide +kernel
theorem dX10_blockOf_2 : decode cX10_blockOf 2 = .ok (.invokevirtual 217, 3) := by decide +kernel
theorem dX10_blockOf_5 : decode cX10_blockOf 5 = .ok (.aload_n 0, 1) := by decide +kernel
theorem dX10_blockOf_6 : decode cX10_blockOf 6 = .ok (.iload_n 2, 1) := by decide +kernel
theorem dX10_blockOf_7 : decode cX10_blockOf 7 = .ok (.invokevirtual 156, 3) := by decide +kernel
theorem dX10_blockOf_10 : decode cX10_blockOf 10 = .ok (.aload_n 0, 1) := by decide +kernel
theorem dX10_blockOf_11 : decode cX10_blockOf 11 = .ok (.getfield 38, 3) := by decide +kernel
theorem dX10_blockOf_14 : decode cX10_blockOf 14 = .ok (.iload_n 1, 1) := by decide +kernel
theorem dX10_blockOf_15 : decode cX10_blockOf 15 = .ok (.aload_n 0, 1) := by decide +kernel
theorem dX10_blockOf_16 : decode cX10_blockOf 16 = .ok (.getfield 38, 3) := by decide +kernel
theorem dX10_blockOf_19 : decode cX10_blockOf 19 = .ok (.getfield 173, 3) := by decide +kernel
theorem dX10_blockOf_22 : decode cX10_blockOf 22 = .ok (.invokevirtual 226, 3) := by decide +kernel
theorem dX10_blockOf_25 : decode cX10_blockOf 25 = .ok (.istore_n 3, 1) := by decide +kernel
theorem dX10_blockOf_26 : decode cX10_blockOf 26 = .ok (.iconst 0, 1) := by decide +kernel
theorem dX10_blockOf_27 : decode cX10_blockOf 27 = .ok (.istore 4, 2) := by decide +kernel
theorem dX10_blockOf_29 : decode cX10_blockOf 29 = .ok (.iload 4, 2) := by decide +kernel
theorem dX10_blockOf_31 : decode cX10_blockOf 31 = .ok (.iload_n 3, 1) := by decide +kernel
theorem dX10_blockOf_32 : decode cX10_blockOf 32 = .ok (.if_icmp .ge 51, 3) := by decide +kernel
theorem dX10_blockOf_35 : decode cX10_blockOf 35 = .ok (.aload_n 0, 1) := by decide +kernel
theorem dX10_blockOf_36 : decode cX10_blockOf 36 = .ok (.getfield 47, 3) := by decide +kernel
theorem dX10_blockOf_39 : decode cX10_blockOf 39 = .ok (.iload_n 1, 1) := by decide +kernel
theorem dX10_blockOf_40 : decode cX10_blockOf 40 = .ok (.iload 4, 2) := by decide +kernel
theorem dX10_blockOf_42 : decode cX10_blockOf 42 = .ok (.aload_n 0, 1) := by decide +kernel
theorem dX10_blockOf_43 : decode cX10_blockOf 43 = .ok (.getfield 38, 3) := by decide +kernel
theorem dX10_blockOf_46 : decode cX10_blockOf 46 = .ok (.getfield 173, 3) := by decide +kernel
theorem dX10_blockOf_49 : decode cX10_blockOf 49 = .ok (.invokevirtual 248, 3) := by decide +kernel
theorem dX10_blockOf_52 : decode cX10_blockOf 52 = .ok (.aload_n 0, 1) := by decide +kernel
theorem dX10_blockOf_53 : decode cX10_blockOf 53 = .ok (.getfield 47, 3) := by decide +kernel
theorem dX10_blockOf_56 : decode cX10_blockOf 56 = .ok (.getfield 251, 3) := by decide +kernel
theorem dX10_blockOf_59 : decode cX10_blockOf 59 = .ok (.iload_n 2, 1) := by decide +kernel
theorem dX10_blockOf_60 : decode cX10_blockOf 60 = .ok (.if_icmp .gt 17, 3) := by decide +kernel
theorem dX10_blockOf_63 : decode cX10_blockOf 63 = .ok (.iload_n 2, 1) := by decide +kernel
theorem dX10_blockOf_64 : decode cX10_blockOf 64 = .ok (.aload_n 0, 1) := by decide +kernel
theorem dX10_blockOf_65 : decode cX10_blockOf 65 = .ok (.getfield 47, 3) := by decide +kernel
theorem dX10_blockOf_68 : decode cX10_blockOf 68 = .ok (.getfield 254, 3) := by decide +kernel
theorem dX10_blockOf_71 : decode cX10_blockOf 71 = .ok (.if_icmp .gt 6, 3) := by decide +kernel
theorem dX10_blockOf_74 : decode cX10_blockOf 74 = .ok (.iload 4, 2) := by decide +kernel
theorem dX10_blockOf_76 : decode cX10_blockOf 76 = .ok (.ireturn, 1) := by decide +kernel
theorem dX10_blockOf_77 : decode cX10_blockOf 77 = .ok (.iinc 4 1, 3) := by decide +kernel
theorem dX10_blockOf_80 : decode cX10_blockOf 80 = .ok (.goto (-51), 3) := by decide +kernel
theorem dX10_blockOf_83 : decode cX10_blockOf 83 = .ok (.iconst (-1), 1) := by decide +kernel
theorem dX10_blockOf_84 : decode cX10_blockOf 84 = .ok (.ireturn, 1) := by decide +kernel
theorem dX10_full_0 : decode cX10_full 0 = .ok (.iconst 0, 1) := by decide +kernel
theorem dX10_full_1 : decode cX10_full 1 = .ok (.istore_n 1, 1) := by decide +kernel
theorem dX10_full_2 : decode cX10_full 2 = .ok (.iconst 0, 1) := by decide +kernel
theorem dX10_full_3 : decode cX10_full 3 = .ok (.istore_n 2, 1) := by decide +kernel
theorem dX10_full_4 : decode cX10_full 4 = .ok (.iload_n 2, 1) := by decide +kernel
theorem dX10_full_5 : decode cX10_full 5 = .ok (.aload_n 0, 1) := by decide +kernel
theorem dX10_full_6 : decode cX10_full 6 = .ok (.getfield 38, 3) := by decide +kernel
theorem dX10_full_9 : decode cX10_full 9 = .ok (.getfield 110, 3) := by decide +kernel
theorem dX10_full_12 : decode cX10_full 12 = .ok (.if_icmp .ge 45, 3) := by decide +kernel
theorem dX10_full_15 : decode cX10_full 15 = .ok (.aload_n 0, 1) := by decide +kernel
theorem dX10_full_16 : decode cX10_full 16 = .ok (.getfield 38, 3) := by decide +kernel
theorem dX10_full_19 : decode cX10_full 19 = .ok (.iload_n 2, 1) := by decide +kernel
theorem dX10_full_20 : decode cX10_full 20 = .ok (.invokevirtual 393, 3) := by decide +kernel
theorem dX10_full_23 : decode cX10_full 23 = .ok (.ifCond .eq 28, 3) := by decide +kernel
theorem dX10_full_26 : decode cX10_full 26 = .ok (.aload_n 0, 1) := by decide +kernel
theorem dX10_full_27 : decode cX10_full 27 = .ok (.getfield 38, 3) := by decide +kernel
theorem dX10_full_30 : decode cX10_full 30 = .ok (.iload_n 2, 1) := by decide +kernel
theorem dX10_full_31 : decode cX10_full 31 = .ok (.invokevirtual 159, 3) := by decide +kernel
theorem dX10_full_34 : decode cX10_full 34 = .ok (.ifCond .ne 17, 3) := by decide +kernel
theorem dX10_full_37 : decode cX10_full 37 = .ok (.aload_n 0, 1) := by decide +kernel
theorem dX10_full_38 : decode cX10_full 38 = .ok (.getfield 77, 3) := by decide +kernel
theorem dX10_full_41 : decode cX10_full 41 = .ok (.iload_n 2, 1) := by decide +kernel
theorem dX10_full_42 : decode cX10_full 42 = .ok (.invokevirtual 396, 3) := by decide +kernel
theorem dX10_full_45 : decode cX10_full 45 = .ok (.ifCond .eq 6, 3) := by decide +kernel
theorem dX10_full_48 : decode cX10_full 48 = .ok (.iinc 1 1, 3) := by decide +kernel
theorem dX10_full_51 : decode cX10_full 51 = .ok (.iinc 2 1, 3) := by decide +kernel
theorem dX10_full_54 : decode cX10_full 54 = .ok (.goto (-50), 3) := by decide +kernel
theorem dX10_full_57 : decode cX10_full 57 = .ok (.iload_n 1, 1) := by decide +kernel
theorem dX10_full_58 : decode cX10_full 58 = .ok (.ireturn, 1) := by decide +kernel
theorem dX10_spread_0 : decode cX10_spread 0 = .ok (.aload_n 0, 1) := by decide +kernel
theorem dX10_spread_1 : decode cX10_spread 1 = .ok (.iload_n 1, 1) := by decide +kernel
theorem dX10_spread_2 : decode cX10_spread 2 = .ok (.iconst 0, 1) := by decide +kernel
theorem dX10_spread_3 : decode cX10_spread 3 = .ok (.bipush 64, 2) := by decide +kernel
theorem dX10_spread_5 : decode cX10_spread 5 = .ok (.invokevirtual 106, 3) := by decide +kernel
theorem dX10_spread_8 : decode cX10_spread 8 = .ok (.iconst 0, 1) := by decide +kernel
theorem dX10_spread_9 : decode cX10_spread 9 = .ok (.istore_n 2, 1) := by decide +kernel
theorem dX10_spread_10 : decode cX10_spread 10 = .ok (.iconst 0, 1) := by decide +kernel
theorem dX10_spread_11 : decode cX10_spread 11 = .ok (.istore_n 3, 1) := by decide +kernel
theorem dX10_spread_12 : decode cX10_spread 12 = .ok (.iload_n 3, 1) := by decide +kernel
theorem dX10_spread_13 : decode cX10_spread 13 = .ok (.aload_n 0, 1) := by decide +kernel
theorem dX10_spread_14 : decode cX10_spread 14 = .ok (.getfield 29, 3) := by decide +kernel
theorem dX10_spread_17 : decode cX10_spread 17 = .ok (.getfield 186, 3) := by decide +kernel
theorem dX10_spread_20 : decode cX10_spread 20 = .ok (.if_icmp .ge 25, 3) := by decide +kernel
theorem dX10_spread_23 : decode cX10_spread 23 = .ok (.aload_n 0, 1) := by decide +kernel
theorem dX10_spread_24 : decode cX10_spread 24 = .ok (.getfield 38, 3) := by decide +kernel
theorem dX10_spread_27 : decode cX10_spread 27 = .ok (.getfield 220, 3) := by decide +kernel
theorem dX10_spread_30 : decode cX10_spread 30 = .ok (.iload_n 3, 1) := by decide +kernel
theorem dX10_spread_31 : decode cX10_spread 31 = .ok (.iaload, 1) := by decide +kernel
theorem dX10_spread_32 : decode cX10_spread 32 = .ok (.iload_n 1, 1) := by decide +kernel
theorem dX10_spread_33 : decode cX10_spread 33 = .ok (.if_icmp .ne 6, 3) := by decide +kernel
theorem dX10_spread_36 : decode cX10_spread 36 = .ok (.iinc 2 1, 3) := by decide +kernel
theorem dX10_spread_39 : decode cX10_spread 39 = .ok (.iinc 3 1, 3) := by decide +kernel
theorem dX10_spread_42 : decode cX10_spread 42 = .ok (.goto (-30), 3) := by decide +kernel
theorem dX10_spread_45 : decode cX10_spread 45 = .ok (.iload_n 2, 1) := by decide +kernel
theorem dX10_spread_46 : decode cX10_spread 46 = .ok (.ireturn, 1) := by decide +kernel
theorem dX10_nearest_0 : decode cX10_nearest 0 = .ok (.aload_n 0, 1) := by decide +kernel
theorem dX10_nearest_1 : decode cX10_nearest 1 = .ok (.iload_n 1, 1) := by decide +kernel
theorem dX10_nearest_2 : decode cX10_nearest 2 = .ok (.invokevirtual 156, 3) := by decide +kernel
theorem dX10_nearest_5 : decode cX10_nearest 5 = .ok (.iconst (-1), 1) := by decide +kernel
theorem dX10_nearest_6 : decode cX10_nearest 6 = .ok (.istore_n 2, 1) := by decide +kernel
theorem dX10_nearest_7 : decode cX10_nearest 7 = .ok (.iconst (-1), 1) := by decide +kernel
theorem dX10_nearest_8 : decode cX10_nearest 8 = .ok (.istore_n 3, 1) := by decide +kernel
theorem dX10_nearest_9 : decode cX10_nearest 9 = .ok (.iconst 0, 1) := by decide +kernel
theorem dX10_nearest_10 : decode cX10_nearest 10 = .ok (.istore 4, 2) := by decide +kernel
theorem dX10_nearest_12 : decode cX10_nearest 12 = .ok (.iload 4, 2) := by decide +kernel
theorem dX10_nearest_14 : decode cX10_nearest 14 = .ok (.aload_n 0, 1) := by decide +kernel
theorem dX10_nearest_15 : decode cX10_nearest 15 = .ok (.getfield 38, 3) := by decide +kernel
theorem dX10_nearest_18 : decode cX10_nearest 18 = .ok (.getfield 110, 3) := by decide +kernel
theorem dX10_nearest_21 : decode cX10_nearest 21 = .ok (.if_icmp .ge 54, 3) := by decide +kernel
theorem dX10_nearest_24 : decode cX10_nearest 24 = .ok (.iload 4, 2) := by decide +kernel
theorem dX10_nearest_26 : decode cX10_nearest 26 = .ok (.iload_n 1, 1) := by decide +kernel
theorem dX10_nearest_27 : decode cX10_nearest 27 = .ok (.if_icmp .eq 42, 3) := by decide +kernel
theorem dX10_nearest_30 : decode cX10_nearest 30 = .ok (.aload_n 0, 1) := by decide +kernel
theorem dX10_nearest_31 : decode cX10_nearest 31 = .ok (.getfield 38, 3) := by decide +kernel
theorem dX10_nearest_34 : decode cX10_nearest 34 = .ok (.iload 4, 2) := by decide +kernel
theorem dX10_nearest_36 : decode cX10_nearest 36 = .ok (.invokevirtual 393, 3) := by decide +kernel
theorem dX10_nearest_39 : decode cX10_nearest 39 = .ok (.ifCond .ne 6, 3) := by decide +kernel
theorem dX10_nearest_42 : decode cX10_nearest 42 = .ok (.goto 27, 3) := by decide +kernel
theorem dX10_nearest_45 : decode cX10_nearest 45 = .ok (.aload_n 0, 1) := by decide +kernel
theorem dX10_nearest_46 : decode cX10_nearest 46 = .ok (.getfield 38, 3) := by decide +kernel
theorem dX10_nearest_49 : decode cX10_nearest 49 = .ok (.iload_n 1, 1) := by decide +kernel
theorem dX10_nearest_50 : decode cX10_nearest 50 = .ok (.iload 4, 2) := by decide +kernel
theorem dX10_nearest_52 : decode cX10_nearest 52 = .ok (.invokevirtual 293, 3) := by decide +kernel
theorem dX10_nearest_55 : decode cX10_nearest 55 = .ok (.istore 5, 2) := by decide +kernel
theorem dX10_nearest_57 : decode cX10_nearest 57 = .ok (.iload 5, 2) := by decide +kernel
theorem dX10_nearest_59 : decode cX10_nearest 59 = .ok (.iload_n 3, 1) := by decide +kernel
theorem dX10_nearest_60 : decode cX10_nearest 60 = .ok (.if_icmp .le 9, 3) := by decide +kernel
theorem dX10_nearest_63 : decode cX10_nearest 63 = .ok (.iload 5, 2) := by decide +kernel
theorem dX10_nearest_65 : decode cX10_nearest 65 = .ok (.istore_n 3, 1) := by decide +kernel
theorem dX10_nearest_66 : decode cX10_nearest 66 = .ok (.iload 4, 2) := by decide +kernel
theorem dX10_nearest_68 : decode cX10_nearest 68 = .ok (.istore_n 2, 1) := by decide +kernel
theorem dX10_nearest_69 : decode cX10_nearest 69 = .ok (.iinc 4 1, 3) := by decide +kernel
theorem dX10_nearest_72 : decode cX10_nearest 72 = .ok (.goto (-60), 3) := by decide +kernel
theorem dX10_nearest_75 : decode cX10_nearest 75 = .ok (.iload_n 2, 1) := by decide +kernel
theorem dX10_nearest_76 : decode cX10_nearest 76 = .ok (.ireturn, 1) := by decide +kernel
theorem dX10_rarest_0 : decode cX10_rarest 0 = .ok (.aload_n 0, 1) := by decide +kernel
theorem dX10_rarest_1 : decode cX10_rarest 1 = .ok (.iload_n 1, 1) := by decide +kernel
theorem dX10_rarest_2 : decode cX10_rarest 2 = .ok (.invokevirtual 156, 3) := by decide +kernel
theorem dX10_rarest_5 : decode cX10_rarest 5 = .ok (.iconst (-1), 1) := by decide +kernel
theorem dX10_rarest_6 : decode cX10_rarest 6 = .ok (.istore_n 2, 1) := by decide +kernel
theorem dX10_rarest_7 : decode cX10_rarest 7 = .ok (.iconst 0, 1) := by decide +kernel
theorem dX10_rarest_8 : decode cX10_rarest 8 = .ok (.istore_n 3, 1) := by decide +kernel
theorem dX10_rarest_9 : decode cX10_rarest 9 = .ok (.iconst 0, 1) := by decide +kernel
theorem dX10_rarest_10 : decode cX10_rarest 10 = .ok (.istore 4, 2) := by decide +kernel
theorem dX10_rarest_12 : decode cX10_rarest 12 = .ok (.iconst 0, 1) := by decide +kernel
theorem dX10_rarest_13 : decode cX10_rarest 13 = .ok (.istore 5, 2) := by decide +kernel
theorem dX10_rarest_15 : decode cX10_rarest 15 = .ok (.iload 5, 2) := by decide +kernel
theorem dX10_rarest_17 : decode cX10_rarest 17 = .ok (.aload_n 0, 1) := by decide +kernel
theorem dX10_rarest_18 : decode cX10_rarest 18 = .ok (.getfield 29, 3) := by decide +kernel
theorem dX10_rarest_21 : decode cX10_rarest 21 = .ok (.getfield 186, 3) := by decide +kernel
theorem dX10_rarest_24 : decode cX10_rarest 24 = .ok (.if_icmp .ge 68, 3) := by decide +kernel
theorem dX10_rarest_27 : decode cX10_rarest 27 = .ok (.aload_n 0, 1) := by decide +kernel
theorem dX10_rarest_28 : decode cX10_rarest 28 = .ok (.getfield 38, 3) := by decide +kernel
theorem dX10_rarest_31 : decode cX10_rarest 31 = .ok (.getfield 210, 3) := by decide +kernel
theorem dX10_rarest_34 : decode cX10_rarest 34 = .ok (.iload 5, 2) := by decide +kernel
theorem dX10_rarest_36 : decode cX10_rarest 36 = .ok (.aaload, 1) := by decide +kernel
theorem dX10_rarest_37 : decode cX10_rarest 37 = .ok (.iload_n 1, 1) := by decide +kernel
theorem dX10_rarest_38 : decode cX10_rarest 38 = .ok (.iaload, 1) := by decide +kernel
theorem dX10_rarest_39 : decode cX10_rarest 39 = .ok (.istore 6, 2) := by decide +kernel
theorem dX10_rarest_41 : decode cX10_rarest 41 = .ok (.aload_n 0, 1) := by decide +kernel
theorem dX10_rarest_42 : decode cX10_rarest 42 = .ok (.getfield 38, 3) := by decide +kernel
theorem dX10_rarest_45 : decode cX10_rarest 45 = .ok (.iload 5, 2) := by decide +kernel
theorem dX10_rarest_47 : decode cX10_rarest 47 = .ok (.invokevirtual 232, 3) := by decide +kernel
theorem dX10_rarest_50 : decode cX10_rarest 50 = .ok (.istore 7, 2) := by decide +kernel
theorem dX10_rarest_52 : decode cX10_rarest 52 = .ok (.iload 6, 2) := by decide +kernel
theorem dX10_rarest_54 : decode cX10_rarest 54 = .ok (.ifCond .le 32, 3) := by decide +kernel
theorem dX10_rarest_57 : decode cX10_rarest 57 = .ok (.iload 7, 2) := by decide +kernel
theorem dX10_rarest_59 : decode cX10_rarest 59 = .ok (.iload_n 3, 1) := by decide +kernel
theorem dX10_rarest_60 : decode cX10_rarest 60 = .ok (.if_icmp .gt 16, 3) := by decide +kernel
theorem dX10_rarest_63 : decode cX10_rarest 63 = .ok (.iload 7, 2) := by decide +kernel
theorem dX10_rarest_65 : decode cX10_rarest 65 = .ok (.iload_n 3, 1) := by decide +kernel
theorem dX10_rarest_66 : decode cX10_rarest 66 = .ok (.if_icmp .ne 20, 3) := by decide +kernel
theorem dX10_rarest_69 : decode cX10_rarest 69 = .ok (.iload 6, 2) := by decide +kernel
theorem dX10_rarest_71 : decode cX10_rarest 71 = .ok (.iload 4, 2) := by decide +kernel
theorem dX10_rarest_73 : decode cX10_rarest 73 = .ok (.if_icmp .le 13, 3) := by decide +kernel
theorem dX10_rarest_76 : decode cX10_rarest 76 = .ok (.iload 5, 2) := by decide +kernel
theorem dX10_rarest_78 : decode cX10_rarest 78 = .ok (.istore_n 2, 1) := by decide +kernel
theorem dX10_rarest_79 : decode cX10_rarest 79 = .ok (.iload 7, 2) := by decide +kernel
theorem dX10_rarest_81 : decode cX10_rarest 81 = .ok (.istore_n 3, 1) := by decide +kernel
theorem dX10_rarest_82 : decode cX10_rarest 82 = .ok (.iload 6, 2) := by decide +kernel
theorem dX10_rarest_84 : decode cX10_rarest 84 = .ok (.istore 4, 2) := by decide +kernel
theorem dX10_rarest_86 : decode cX10_rarest 86 = .ok (.iinc 5 1, 3) := by decide +kernel
theorem dX10_rarest_89 : decode cX10_rarest 89 = .ok (.goto (-74), 3) := by decide +kernel
theorem dX10_rarest_92 : decode cX10_rarest 92 = .ok (.iload_n 2, 1) := by decide +kernel
theorem dX10_rarest_93 : decode cX10_rarest 93 = .ok (.ireturn, 1) := by decide +kernel
theorem dX10_points_0 : decode cX10_points 0 = .ok (.aload_n 0, 1) := by decide +kernel
theorem dX10_points_1 : decode cX10_points 1 = .ok (.iload_n 1, 1) := by decide +kernel
theorem dX10_points_2 : decode cX10_points 2 = .ok (.invokevirtual 156, 3) := by decide +kernel
theorem dX10_points_5 : decode cX10_points 5 = .ok (.aload_n 0, 1) := by decide +kernel
theorem dX10_points_6 : decode cX10_points 6 = .ok (.getfield 54, 3) := by decide +kernel
theorem dX10_points_9 : decode cX10_points 9 = .ok (.iload_n 2, 1) := by decide +kernel
theorem dX10_points_10 : decode cX10_points 10 = .ok (.invokevirtual 296, 3) := by decide +kernel
theorem dX10_points_13 : decode cX10_points 13 = .ok (.ifCond .eq 15, 3) := by decide +kernel
theorem dX10_points_16 : decode cX10_points 16 = .ok (.aload_n 0, 1) := by decide +kernel
theorem dX10_points_17 : decode cX10_points 17 = .ok (.getfield 77, 3) := by decide +kernel
theorem dX10_points_20 : decode cX10_points 20 = .ok (.iload_n 1, 1) := by decide +kernel
theorem dX10_points_21 : decode cX10_points 21 = .ok (.iload_n 2, 1) := by decide +kernel
theorem dX10_points_22 : decode cX10_points 22 = .ok (.invokevirtual 399, 3) := by decide +kernel
theorem dX10_points_25 : decode cX10_points 25 = .ok (.goto 4, 3) := by decide +kernel
theorem dX10_points_28 : decode cX10_points 28 = .ok (.iconst (-1), 1) := by decide +kernel
theorem dX10_points_29 : decode cX10_points 29 = .ok (.ireturn, 1) := by decide +kernel
theorem dX10_phrase_0 : decode cX10_phrase 0 = .ok (.aload_n 0, 1) := by decide +kernel
theorem dX10_phrase_1 : decode cX10_phrase 1 = .ok (.iload_n 1, 1) := by decide +kernel
theorem dX10_phrase_2 : decode cX10_phrase 2 = .ok (.invokevirtual 156, 3) := by decide +kernel
theorem dX10_phrase_5 : decode cX10_phrase 5 = .ok (.iload_n 2, 1) := by decide +kernel
theorem dX10_phrase_6 : decode cX10_phrase 6 = .ok (.ifCond .lt 14, 3) := by decide +kernel
theorem dX10_phrase_9 : decode cX10_phrase 9 = .ok (.iload_n 2, 1) := by decide +kernel
theorem dX10_phrase_10 : decode cX10_phrase 10 = .ok (.aload_n 0, 1) := by decide +kernel
theorem dX10_phrase_11 : decode cX10_phrase 11 = .ok (.getfield 54, 3) := by decide +kernel
theorem dX10_phrase_14 : decode cX10_phrase 14 = .ok (.getfield 402, 3) := by decide +kernel
theorem dX10_phrase_17 : decode cX10_phrase 17 = .ok (.if_icmp .lt 5, 3) := by decide +kernel
theorem dX10_phrase_20 : decode cX10_phrase 20 = .ok (.iconst (-1), 1) := by decide +kernel
theorem dX10_phrase_21 : decode cX10_phrase 21 = .ok (.ireturn, 1) := by decide +kernel
theorem dX10_phrase_22 : decode cX10_phrase 22 = .ok (.aload_n 0, 1) := by decide +kernel
theorem dX10_phrase_23 : decode cX10_phrase 23 = .ok (.getfield 77, 3) := by decide +kernel
theorem dX10_phrase_26 : decode cX10_phrase 26 = .ok (.iload_n 1, 1) := by decide +kernel
theorem dX10_phrase_27 : decode cX10_phrase 27 = .ok (.iload_n 2, 1) := by decide +kernel
theorem dX10_phrase_28 : decode cX10_phrase 28 = .ok (.invokevirtual 405, 3) := by decide +kernel
theorem dX10_phrase_31 : decode cX10_phrase 31 = .ok (.ireturn, 1) := by decide +kernel
theorem dX10_depth_0 : decode cX10_depth 0 = .ok (.aload_n 0, 1) := by decide +kernel
theorem dX10_depth_1 : decode cX10_depth 1 = .ok (.iload_n 1, 1) := by decide +kernel
theorem dX10_depth_2 : decode cX10_depth 2 = .ok (.iload_n 2, 1) := by decide +kernel
theorem dX10_depth_3 : decode cX10_depth 3 = .ok (.invokevirtual 375, 3) := by decide +kernel
theorem dX10_depth_6 : decode cX10_depth 6 = .ok (.iconst 1, 1) := by decide +kernel
theorem dX10_depth_7 : decode cX10_depth 7 = .ok (.istore_n 3, 1) := by decide +kernel
theorem dX10_depth_8 : decode cX10_depth 8 = .ok (.iload_n 3, 1) := by decide +kernel
theorem dX10_depth_9 : decode cX10_depth 9 = .ok (.bipush 10, 2) := by decide +kernel
theorem dX10_depth_11 : decode cX10_depth 11 = .ok (.if_icmp .gt 43, 3) := by decide +kernel
theorem dX10_depth_14 : decode cX10_depth 14 = .ok (.aload_n 0, 1) := by decide +kernel
theorem dX10_depth_15 : decode cX10_depth 15 = .ok (.getfield 98, 3) := by decide +kernel
theorem dX10_depth_18 : decode cX10_depth 18 = .ok (.iload_n 3, 1) := by decide +kernel
theorem dX10_depth_19 : decode cX10_depth 19 = .ok (.aload_n 0, 1) := by decide +kernel
theorem dX10_depth_20 : decode cX10_depth 20 = .ok (.getfield 38, 3) := by decide +kernel
theorem dX10_depth_23 : decode cX10_depth 23 = .ok (.getfield 173, 3) := by decide +kernel
theorem dX10_depth_26 : decode cX10_depth 26 = .ok (.invokevirtual 342, 3) := by decide +kernel
theorem dX10_depth_29 : decode cX10_depth 29 = .ok (.aload_n 0, 1) := by decide +kernel
theorem dX10_depth_30 : decode cX10_depth 30 = .ok (.getfield 98, 3) := by decide +kernel
theorem dX10_depth_33 : decode cX10_depth 33 = .ok (.getfield 378, 3) := by decide +kernel
theorem dX10_depth_36 : decode cX10_depth 36 = .ok (.iload_n 1, 1) := by decide +kernel
theorem dX10_depth_37 : decode cX10_depth 37 = .ok (.aaload, 1) := by decide +kernel
theorem dX10_depth_38 : decode cX10_depth 38 = .ok (.getfield 382, 3) := by decide +kernel
theorem dX10_depth_41 : decode cX10_depth 41 = .ok (.iload_n 2, 1) := by decide +kernel
theorem dX10_depth_42 : decode cX10_depth 42 = .ok (.iaload, 1) := by decide +kernel
theorem dX10_depth_43 : decode cX10_depth 43 = .ok (.ifCond .le 5, 3) := by decide +kernel
theorem dX10_depth_46 : decode cX10_depth 46 = .ok (.iload_n 3, 1) := by decide +kernel
theorem dX10_depth_47 : decode cX10_depth 47 = .ok (.ireturn, 1) := by decide +kernel
theorem dX10_depth_48 : decode cX10_depth 48 = .ok (.iinc 3 1, 3) := by decide +kernel
theorem dX10_depth_51 : decode cX10_depth 51 = .ok (.goto (-43), 3) := by decide +kernel
theorem dX10_depth_54 : decode cX10_depth 54 = .ok (.iconst (-1), 1) := by decide +kernel
theorem dX10_depth_55 : decode cX10_depth 55 = .ok (.ireturn, 1) := by decide +kernel
theorem dX10_without_0 : decode cX10_without 0 = .ok (.aload_n 0, 1) := by decide +kernel
theorem dX10_without_1 : decode cX10_without 1 = .ok (.iload_n 1, 1) := by decide +kernel
theorem dX10_without_2 : decode cX10_without 2 = .ok (.iconst 1, 1) := by decide +kernel
theorem dX10_without_3 : decode cX10_without 3 = .ok (.bipush 10, 2) := by decide +kernel
theorem dX10_without_5 : decode cX10_without 5 = .ok (.invokevirtual 106, 3) := by decide +kernel
theorem dX10_without_8 : decode cX10_without 8 = .ok (.aload_n 0, 1) := by decide +kernel
theorem dX10_without_9 : decode cX10_without 9 = .ok (.getfield 54, 3) := by decide +kernel
theorem dX10_without_12 : decode cX10_without 12 = .ok (.iload_n 2, 1) := by decide +kernel
theorem dX10_without_13 : decode cX10_without 13 = .ok (.invokevirtual 296, 3) := by decide +kernel
theorem dX10_without_16 : decode cX10_without 16 = .ok (.ifCond .ne 5, 3) := by decide +kernel
theorem dX10_without_19 : decode cX10_without 19 = .ok (.iconst (-1), 1) := by decide +kernel
theorem dX10_without_20 : decode cX10_without 20 = .ok (.ireturn, 1) := by decide +kernel
theorem dX10_without_21 : decode cX10_without 21 = .ok (.aload_n 0, 1) := by decide +kernel
theorem dX10_without_22 : decode cX10_without 22 = .ok (.getfield 86, 3) := by decide +kernel
theorem dX10_without_25 : decode cX10_without 25 = .ok (.iconst (-1), 1) := by decide +kernel
theorem dX10_without_26 : decode cX10_without 26 = .ok (.invokevirtual 327, 3) := by decide +kernel
theorem dX10_without_29 : decode cX10_without 29 = .ok (.aload_n 0, 1) := by decide +kernel
theorem dX10_without_30 : decode cX10_without 30 = .ok (.getfield 90, 3) := by decide +kernel
theorem dX10_without_33 : decode cX10_without 33 = .ok (.iload_n 2, 1) := by decide +kernel
theorem dX10_without_34 : decode cX10_without 34 = .ok (.invokevirtual 327, 3) := by decide +kernel
theorem dX10_without_37 : decode cX10_without 37 = .ok (.iconst 0, 1) := by decide +kernel
theorem dX10_without_38 : decode cX10_without 38 = .ok (.istore_n 3, 1) := by decide +kernel
theorem dX10_without_39 : decode cX10_without 39 = .ok (.iconst 0, 1) := by decide +kernel
theorem dX10_without_40 : decode cX10_without 40 = .ok (.istore 4, 2) := by decide +kernel
theorem dX10_without_42 : decode cX10_without 42 = .ok (.iload 4, 2) := by decide +kernel
theorem dX10_without_44 : decode cX10_without 44 = .ok (.iload_n 1, 1) := by decide +kernel
theorem dX10_without_45 : decode cX10_without 45 = .ok (.if_icmp .ge 55, 3) := by decide +kernel
theorem dX10_without_48 : decode cX10_without 48 = .ok (.iload 4, 2) := by decide +kernel
theorem dX10_without_50 : decode cX10_without 50 = .ok (.aload_n 0, 1) := by decide +kernel
theorem dX10_without_51 : decode cX10_without 51 = .ok (.getfield 86, 3) := by decide +kernel
theorem dX10_without_54 : decode cX10_without 54 = .ok (.getfield 330, 3) := by decide +kernel
theorem dX10_without_57 : decode cX10_without 57 = .ok (.if_icmp .ge 43, 3) := by decide +kernel
theorem dX10_without_60 : decode cX10_without 60 = .ok (.aload_n 0, 1) := by decide +kernel
theorem dX10_without_61 : decode cX10_without 61 = .ok (.getfield 90, 3) := by decide +kernel
theorem dX10_without_64 : decode cX10_without 64 = .ok (.aload_n 0, 1) := by decide +kernel
theorem dX10_without_65 : decode cX10_without 65 = .ok (.getfield 86, 3) := by decide +kernel
theorem dX10_without_68 : decode cX10_without 68 = .ok (.getfield 333, 3) := by decide +kernel
theorem dX10_without_71 : decode cX10_without 71 = .ok (.iload 4, 2) := by decide +kernel
theorem dX10_without_73 : decode cX10_without 73 = .ok (.iaload, 1) := by decide +kernel
theorem dX10_without_74 : decode cX10_without 74 = .ok (.invokevirtual 339, 3) := by decide +kernel
theorem dX10_without_77 : decode cX10_without 77 = .ok (.istore 5, 2) := by decide +kernel
theorem dX10_without_79 : decode cX10_without 79 = .ok (.iload 5, 2) := by decide +kernel
theorem dX10_without_81 : decode cX10_without 81 = .ok (.iconst (-1), 1) := by decide +kernel
theorem dX10_without_82 : decode cX10_without 82 = .ok (.if_icmp .eq 9, 3) := by decide +kernel
theorem dX10_without_85 : decode cX10_without 85 = .ok (.iload 5, 2) := by decide +kernel
theorem dX10_without_87 : decode cX10_without 87 = .ok (.iload_n 1, 1) := by decide +kernel
theorem dX10_without_88 : decode cX10_without 88 = .ok (.if_icmp .lt 6, 3) := by decide +kernel
theorem dX10_without_91 : decode cX10_without 91 = .ok (.iinc 3 1, 3) := by decide +kernel
theorem dX10_without_94 : decode cX10_without 94 = .ok (.iinc 4 1, 3) := by decide +kernel
theorem dX10_without_97 : decode cX10_without 97 = .ok (.goto (-55), 3) := by decide +kernel
theorem dX10_without_100 : decode cX10_without 100 = .ok (.iload_n 3, 1) := by decide +kernel
theorem dX10_without_101 : decode cX10_without 101 = .ok (.ireturn, 1) := by decide +kernel
theorem dX10_status_0 : decode cX10_status 0 = .ok (.iload_n 1, 1) := by decide +kernel
theorem dX10_status_1 : decode cX10_status 1 = .ok (.ifCond .ne 8, 3) := by decide +kernel
theorem dX10_status_4 : decode cX10_status 4 = .ok (.aload_n 0, 1) := by decide +kernel
theorem dX10_status_5 : decode cX10_status 5 = .ok (.getfield 20, 3) := by decide +kernel
theorem dX10_status_8 : decode cX10_status 8 = .ok (.ireturn, 1) := by decide +kernel
theorem dX10_status_9 : decode cX10_status 9 = .ok (.iload_n 1, 1) := by decide +kernel
theorem dX10_status_10 : decode cX10_status 10 = .ok (.iconst 1, 1) := by decide +kernel
theorem dX10_status_11 : decode cX10_status 11 = .ok (.if_icmp .ne 10, 3) := by decide +kernel
theorem dX10_status_14 : decode cX10_status 14 = .ok (.aload_n 0, 1) := by decide +kernel
theorem dX10_status_15 : decode cX10_status 15 = .ok (.getfield 23, 3) := by decide +kernel
theorem dX10_status_18 : decode cX10_status 18 = .ok (.goto 4, 3) := by decide +kernel
theorem dX10_status_21 : decode cX10_status 21 = .ok (.iconst (-1), 1) := by decide +kernel
theorem dX10_status_22 : decode cX10_status 22 = .ok (.ireturn, 1) := by decide +kernel
theorem dX10_putBytes_0 : decode cX10_putBytes 0 = .ok (.bipush 24, 2) := by decide +kernel
theorem dX10_putBytes_2 : decode cX10_putBytes 2 = .ok (.istore_n 2, 1) := by decide +kernel
theorem dX10_putBytes_3 : decode cX10_putBytes 3 = .ok (.iload_n 2, 1) := by decide +kernel
theorem dX10_putBytes_4 : decode cX10_putBytes 4 = .ok (.ifCond .lt 35, 3) := by decide +kernel
theorem dX10_putBytes_7 : decode cX10_putBytes 7 = .ok (.aload_n 0, 1) := by decide +kernel
theorem dX10_putBytes_8 : decode cX10_putBytes 8 = .ok (.getfield 9, 3) := by decide +kernel
theorem dX10_putBytes_11 : decode cX10_putBytes 11 = .ok (.aload_n 0, 1) := by decide +kernel
theorem dX10_putBytes_12 : decode cX10_putBytes 12 = .ok (.getfield 13, 3) := by decide +kernel
theorem dX10_putBytes_15 : decode cX10_putBytes 15 = .ok (.iload_n 1, 1) := by decide +kernel
theorem dX10_putBytes_16 : decode cX10_putBytes 16 = .ok (.iload_n 2, 1) := by decide +kernel
theorem dX10_putBytes_17 : decode cX10_putBytes 17 = .ok (.iushr, 1) := by decide +kernel
theorem dX10_putBytes_18 : decode cX10_putBytes 18 = .ok (.sipush 255, 3) := by decide +kernel
theorem dX10_putBytes_21 : decode cX10_putBytes 21 = .ok (.iand, 1) := by decide +kernel
theorem dX10_putBytes_22 : decode cX10_putBytes 22 = .ok (.iastore, 1) := by decide +kernel
theorem dX10_putBytes_23 : decode cX10_putBytes 23 = .ok (.aload_n 0, 1) := by decide +kernel
theorem dX10_putBytes_24 : decode cX10_putBytes 24 = .ok (.dup, 1) := by decide +kernel
theorem dX10_putBytes_25 : decode cX10_putBytes 25 = .ok (.getfield 13, 3) := by decide +kernel
theorem dX10_putBytes_28 : decode cX10_putBytes 28 = .ok (.iconst 1, 1) := by decide +kernel
theorem dX10_putBytes_29 : decode cX10_putBytes 29 = .ok (.iadd, 1) := by decide +kernel
theorem dX10_putBytes_30 : decode cX10_putBytes 30 = .ok (.putfield 13, 3) := by decide +kernel
theorem dX10_putBytes_33 : decode cX10_putBytes 33 = .ok (.iinc 2 (-8), 3) := by decide +kernel
theorem dX10_putBytes_36 : decode cX10_putBytes 36 = .ok (.goto (-33), 3) := by decide +kernel
theorem dX10_putBytes_39 : decode cX10_putBytes 39 = .ok (.return_, 1) := by decide +kernel
theorem dX10_spellingOf_0 : decode cX10_spellingOf 0 = .ok (.iload_n 1, 1) := by decide +kernel
theorem dX10_spellingOf_1 : decode cX10_spellingOf 1 = .ok (.bipush 8, 2) := by decide +kernel
theorem dX10_spellingOf_3 : decode cX10_spellingOf 3 = .ok (.if_icmp .le 5, 3) := by decide +kernel
theorem dX10_spellingOf_6 : decode cX10_spellingOf 6 = .ok (.lconst 0, 1) := by decide +kernel
theorem dX10_spellingOf_7 : decode cX10_spellingOf 7 = .ok (.lreturn, 1) := by decide +kernel
theorem dX10_spellingOf_8 : decode cX10_spellingOf 8 = .ok (.lconst 0, 1) := by decide +kernel
theorem dX10_spellingOf_9 : decode cX10_spellingOf 9 = .ok (.lstore_n 2, 1) := by decide +kernel
theorem dX10_spellingOf_10 : decode cX10_spellingOf 10 = .ok (.iconst 0, 1) := by decide +kernel
theorem dX10_spellingOf_11 : decode cX10_spellingOf 11 = .ok (.istore 4, 2) := by decide +kernel
theorem dX10_spellingOf_13 : decode cX10_spellingOf 13 = .ok (.iload 4, 2) := by decide +kernel
theorem dX10_spellingOf_15 : decode cX10_spellingOf 15 = .ok (.iload_n 1, 1) := by decide +kernel
theorem dX10_spellingOf_16 : decode cX10_spellingOf 16 = .ok (.if_icmp .ge 36, 3) := by decide +kernel
theorem dX10_spellingOf_19 : decode cX10_spellingOf 19 = .ok (.aload_n 0, 1) := by decide +kernel
theorem dX10_spellingOf_20 : decode cX10_spellingOf 20 = .ok (.getfield 9, 3) := by decide +kernel
theorem dX10_spellingOf_23 : decode cX10_spellingOf 23 = .ok (.iload 4, 2) := by decide +kernel
theorem dX10_spellingOf_25 : decode cX10_spellingOf 25 = .ok (.iaload, 1) := by decide +kernel
theorem dX10_spellingOf_26 : decode cX10_spellingOf 26 = .ok (.invokestatic 408, 3) := by decide +kernel
theorem dX10_spellingOf_29 : decode cX10_spellingOf 29 = .ok (.ifCond .ne 5, 3) := by decide +kernel
theorem dX10_spellingOf_32 : decode cX10_spellingOf 32 = .ok (.lconst 0, 1) := by decide +kernel
theorem dX10_spellingOf_33 : decode cX10_spellingOf 33 = .ok (.lreturn, 1) := by decide +kernel
theorem dX10_spellingOf_34 : decode cX10_spellingOf 34 = .ok (.lload_n 2, 1) := by decide +kernel
theorem dX10_spellingOf_35 : decode cX10_spellingOf 35 = .ok (.aload_n 0, 1) := by decide +kernel
theorem dX10_spellingOf_36 : decode cX10_spellingOf 36 = .ok (.getfield 9, 3) := by decide +kernel
theorem dX10_spellingOf_39 : decode cX10_spellingOf 39 = .ok (.iload 4, 2) := by decide +kernel
theorem dX10_spellingOf_41 : decode cX10_spellingOf 41 = .ok (.iaload, 1) := by decide +kernel
theorem dX10_spellingOf_42 : decode cX10_spellingOf 42 = .ok (.invokestatic 411, 3) := by decide +kernel
theorem dX10_spellingOf_45 : decode cX10_spellingOf 45 = .ok (.lstore_n 2, 1) := by decide +kernel
theorem dX10_spellingOf_46 : decode cX10_spellingOf 46 = .ok (.iinc 4 1, 3) := by decide +kernel
theorem dX10_spellingOf_49 : decode cX10_spellingOf 49 = .ok (.goto (-36), 3) := by decide +kernel
theorem dX10_spellingOf_52 : decode cX10_spellingOf 52 = .ok (.lload_n 2, 1) := by decide +kernel
theorem dX10_spellingOf_53 : decode cX10_spellingOf 53 = .ok (.lreturn, 1) := by decide +kernel
theorem dX10_workBy_0 : decode cX10_workBy 0 = .ok (.aload_n 0, 1) := by decide +kernel
theorem dX10_workBy_1 : decode cX10_workBy 1 = .ok (.getfield 98, 3) := by decide +kernel
theorem dX10_workBy_4 : decode cX10_workBy 4 = .ok (.iload_n 1, 1) := by decide +kernel
theorem dX10_workBy_5 : decode cX10_workBy 5 = .ok (.iload_n 2, 1) := by decide +kernel
theorem dX10_workBy_6 : decode cX10_workBy 6 = .ok (.invokevirtual 342, 3) := by decide +kernel
theorem dX10_workBy_9 : decode cX10_workBy 9 = .ok (.aload_n 0, 1) := by decide +kernel
theorem dX10_workBy_10 : decode cX10_workBy 10 = .ok (.getfield 98, 3) := by decide +kernel
theorem dX10_workBy_13 : decode cX10_workBy 13 = .ok (.invokevirtual 357, 3) := by decide +kernel
theorem dX10_workBy_16 : decode cX10_workBy 16 = .ok (.ireturn, 1) := by decide +kernel
theorem dX10_needBetween_0 : decode cX10_needBetween 0 = .ok (.iload_n 1, 1) := by decide +kernel
theorem dX10_needBetween_1 : decode cX10_needBetween 1 = .ok (.iload_n 2, 1) := by decide +kernel
theorem dX10_needBetween_2 : decode cX10_needBetween 2 = .ok (.if_icmp .lt 8, 3) := by decide +kernel
theorem dX10_needBetween_5 : decode cX10_needBetween 5 = .ok (.iload_n 1, 1) := by decide +kernel
theorem dX10_needBetween_6 : decode cX10_needBetween 6 = .ok (.iload_n 3, 1) := by decide +kernel
theorem dX10_needBetween_7 : decode cX10_needBetween 7 = .ok (.if_icmp .le 7, 3) := by decide +kernel
theorem dX10_needBetween_10 : decode cX10_needBetween 10 = .ok (.aload_n 0, 1) := by decide +kernel
theorem dX10_needBetween_11 : decode cX10_needBetween 11 = .ok (.invokevirtual 113, 3) := by decide +kernel
theorem dX10_needBetween_14 : decode cX10_needBetween 14 = .ok (.return_, 1) := by decide +kernel
theorem dX10_needSize_0 : decode cX10_needSize 0 = .ok (.aload_n 0, 1) := by decide +kernel
theorem dX10_needSize_1 : decode cX10_needSize 1 = .ok (.iload_n 1, 1) := by decide +kernel
theorem dX10_needSize_2 : decode cX10_needSize 2 = .ok (.iconst 2, 1) := by decide +kernel
theorem dX10_needSize_3 : decode cX10_needSize 3 = .ok (.bipush 8, 2) := by decide +kernel
theorem dX10_needSize_5 : decode cX10_needSize 5 = .ok (.invokevirtual 106, 3) := by decide +kernel
theorem dX10_needSize_8 : decode cX10_needSize 8 = .ok (.return_, 1) := by decide +kernel
theorem dX10_needDocument_0 : decode cX10_needDocument 0 = .ok (.aload_n 0, 1) := by decide +kernel
theorem dX10_needDocument_1 : decode cX10_needDocument 1 = .ok (.getfield 38, 3) := by decide +kernel
theorem dX10_needDocument_4 : decode cX10_needDocument 4 = .ok (.iload_n 1, 1) := by decide +kernel
theorem dX10_needDocument_5 : decode cX10_needDocument 5 = .ok (.invokevirtual 393, 3) := by decide +kernel
theorem dX10_needDocument_8 : decode cX10_needDocument 8 = .ok (.ifCond .ne 7, 3) := by decide +kernel
theorem dX10_needDocument_11 : decode cX10_needDocument 11 = .ok (.aload_n 0, 1) := by decide +kernel
theorem dX10_needDocument_12 : decode cX10_needDocument 12 = .ok (.invokevirtual 163, 3) := by decide +kernel
theorem dX10_needDocument_15 : decode cX10_needDocument 15 = .ok (.return_, 1) := by decide +kernel
theorem dX10_needWord_0 : decode cX10_needWord 0 = .ok (.iload_n 1, 1) := by decide +kernel
theorem dX10_needWord_1 : decode cX10_needWord 1 = .ok (.ifCond .lt 14, 3) := by decide +kernel
theorem dX10_needWord_4 : decode cX10_needWord 4 = .ok (.iload_n 1, 1) := by decide +kernel
theorem dX10_needWord_5 : decode cX10_needWord 5 = .ok (.aload_n 0, 1) := by decide +kernel
theorem dX10_needWord_6 : decode cX10_needWord 6 = .ok (.getfield 29, 3) := by decide +kernel
theorem dX10_needWord_9 : decode cX10_needWord 9 = .ok (.getfield 186, 3) := by decide +kernel
theorem dX10_needWord_12 : decode cX10_needWord 12 = .ok (.if_icmp .lt 7, 3) := by decide +kernel
theorem dX10_needWord_15 : decode cX10_needWord 15 = .ok (.aload_n 0, 1) := by decide +kernel
theorem dX10_needWord_16 : decode cX10_needWord 16 = .ok (.invokevirtual 163, 3) := by decide +kernel
theorem dX10_needWord_19 : decode cX10_needWord 19 = .ok (.return_, 1) := by decide +kernel
theorem dX10_needBlock_0 : decode cX10_needBlock 0 = .ok (.aload_n 0, 1) := by decide +kernel
theorem dX10_needBlock_1 : decode cX10_needBlock 1 = .ok (.iload_n 1, 1) := by decide +kernel
theorem dX10_needBlock_2 : decode cX10_needBlock 2 = .ok (.invokevirtual 217, 3) := by decide +kernel
theorem dX10_needBlock_5 : decode cX10_needBlock 5 = .ok (.iload_n 2, 1) := by decide +kernel
theorem dX10_needBlock_6 : decode cX10_needBlock 6 = .ok (.ifCond .lt 22, 3) := by decide +kernel
theorem dX10_needBlock_9 : decode cX10_needBlock 9 = .ok (.iload_n 2, 1) := by decide +kernel
theorem dX10_needBlock_10 : decode cX10_needBlock 10 = .ok (.aload_n 0, 1) := by decide +kernel
theorem dX10_needBlock_11 : decode cX10_needBlock 11 = .ok (.getfield 38, 3) := by decide +kernel
theorem dX10_needBlock_14 : decode cX10_needBlock 14 = .ok (.iload_n 1, 1) := by decide +kernel
theorem dX10_needBlock_15 : decode cX10_needBlock 15 = .ok (.aload_n 0, 1) := by decide +kernel
theorem dX10_needBlock_16 : decode cX10_needBlock 16 = .ok (.getfield 38, 3) := by decide +kernel
theorem dX10_needBlock_19 : decode cX10_needBlock 19 = .ok (.getfield 173, 3) := by decide +kernel
theorem dX10_needBlock_22 : decode cX10_needBlock 22 = .ok (.invokevirtual 226, 3) := by decide +kernel
theorem dX10_needBlock_25 : decode cX10_needBlock 25 = .ok (.if_icmp .lt 7, 3) := by decide +kernel
theorem dX10_needBlock_28 : decode cX10_needBlock 28 = .ok (.aload_n 0, 1) := by decide +kernel
theorem dX10_needBlock_29 : decode cX10_needBlock 29 = .ok (.invokevirtual 163, 3) := by decide +kernel
theorem dX10_needBlock_32 : decode cX10_needBlock 32 = .ok (.return_, 1) := by decide +kernel
theorem dX10_needPosting_0 : decode cX10_needPosting 0 = .ok (.aload_n 0, 1) := by decide +kernel
theorem dX10_needPosting_1 : decode cX10_needPosting 1 = .ok (.iload_n 1, 1) := by decide +kernel
theorem dX10_needPosting_2 : decode cX10_needPosting 2 = .ok (.invokevirtual 217, 3) := by decide +kernel
theorem dX10_needPosting_5 : decode cX10_needPosting 5 = .ok (.iload_n 2, 1) := by decide +kernel
theorem dX10_needPosting_6 : decode cX10_needPosting 6 = .ok (.ifCond .lt 16, 3) := by decide +kernel
theorem dX10_needPosting_9 : decode cX10_needPosting 9 = .ok (.iload_n 2, 1) := by decide +kernel
theorem dX10_needPosting_10 : decode cX10_needPosting 10 = .ok (.aload_n 0, 1) := by decide +kernel
theorem dX10_needPosting_11 : decode cX10_needPosting 11 = .ok (.getfield 38, 3) := by decide +kernel
theorem dX10_needPosting_14 : decode cX10_needPosting 14 = .ok (.getfield 220, 3) := by decide +kernel
theorem dX10_needPosting_17 : decode cX10_needPosting 17 = .ok (.iload_n 1, 1) := by decide +kernel
theorem dX10_needPosting_18 : decode cX10_needPosting 18 = .ok (.iaload, 1) := by decide +kernel
theorem dX10_needPosting_19 : decode cX10_needPosting 19 = .ok (.if_icmp .lt 7, 3) := by decide +kernel
theorem dX10_needPosting_22 : decode cX10_needPosting 22 = .ok (.aload_n 0, 1) := by decide +kernel
theorem dX10_needPosting_23 : decode cX10_needPosting 23 = .ok (.invokevirtual 163, 3) := by decide +kernel
theorem dX10_needPosting_26 : decode cX10_needPosting 26 = .ok (.return_, 1) := by decide +kernel
theorem dX10_needScoredBlock_0 : decode cX10_needScoredBlock 0 = .ok (.aload_n 0, 1) := by decide +kernel
theorem dX10_needScoredBlock_1 : decode cX10_needScoredBlock 1 = .ok (.getfield 54, 3) := by decide +kernel
theorem dX10_needScoredBlock_4 : decode cX10_needScoredBlock 4 = .ok (.iload_n 1, 1) := by decide +kernel
theorem dX10_needScoredBlock_5 : decode cX10_needScoredBlock 5 = .ok (.invokevirtual 296, 3) := by decide +kernel
theorem dX10_needScoredBlock_8 : decode cX10_needScoredBlock 8 = .ok (.ifCond .ne 7, 3) := by decide +kernel
theorem dX10_needScoredBlock_11 : decode cX10_needScoredBlock 11 = .ok (.aload_n 0, 1) := by decide +kernel
theorem dX10_needScoredBlock_12 : decode cX10_needScoredBlock 12 = .ok (.invokevirtual 163, 3) := by decide +kernel
theorem dX10_needScoredBlock_15 : decode cX10_needScoredBlock 15 = .ok (.aload_n 0, 1) := by decide +kernel
theorem dX10_needScoredBlock_16 : decode cX10_needScoredBlock 16 = .ok (.aload_n 0, 1) := by decide +kernel
theorem dX10_needScoredBlock_17 : decode cX10_needScoredBlock 17 = .ok (.getfield 54, 3) := by decide +kernel
theorem dX10_needScoredBlock_20 : decode cX10_needScoredBlock 20 = .ok (.getfield 299, 3) := by decide +kernel
theorem dX10_needScoredBlock_23 : decode cX10_needScoredBlock 23 = .ok (.iload_n 1, 1) := by decide +kernel
theorem dX10_needScoredBlock_24 : decode cX10_needScoredBlock 24 = .ok (.iaload, 1) := by decide +kernel
theorem dX10_needScoredBlock_25 : decode cX10_needScoredBlock 25 = .ok (.iload_n 2, 1) := by decide +kernel
theorem dX10_needScoredBlock_26 : decode cX10_needScoredBlock 26 = .ok (.invokevirtual 244, 3) := by decide +kernel
theorem dX10_needScoredBlock_29 : decode cX10_needScoredBlock 29 = .ok (.return_, 1) := by decide +kernel
theorem dX10_refuseMissing_0 : decode cX10_refuseMissing 0 = .ok (.aload_n 0, 1) := by decide +kernel
theorem dX10_refuseMissing_1 : decode cX10_refuseMissing 1 = .ok (.dup, 1) := by decide +kernel
theorem dX10_refuseMissing_2 : decode cX10_refuseMissing 2 = .ok (.getfield 20, 3) := by decide +kernel
theorem dX10_refuseMissing_5 : decode cX10_refuseMissing 5 = .ok (.iconst 1, 1) := by decide +kernel
theorem dX10_refuseMissing_6 : decode cX10_refuseMissing 6 = .ok (.iadd, 1) := by decide +kernel
theorem dX10_refuseMissing_7 : decode cX10_refuseMissing 7 = .ok (.putfield 20, 3) := by decide +kernel
theorem dX10_refuseMissing_10 : decode cX10_refuseMissing 10 = .ok (.new 415, 3) := by decide +kernel
theorem dX10_refuseMissing_13 : decode cX10_refuseMissing 13 = .ok (.dup, 1) := by decide +kernel
theorem dX10_refuseMissing_14 : decode cX10_refuseMissing 14 = .ok (.ldc_w 417, 3) := by decide +kernel
theorem dX10_refuseMissing_17 : decode cX10_refuseMissing 17 = .ok (.invokespecial 419, 3) := by decide +kernel
theorem dX10_refuseMissing_20 : decode cX10_refuseMissing 20 = .ok (.athrow, 1) := by decide +kernel
theorem dX10_refuseArgument_0 : decode cX10_refuseArgument 0 = .ok (.aload_n 0, 1) := by decide +kernel
theorem dX10_refuseArgument_1 : decode cX10_refuseArgument 1 = .ok (.dup, 1) := by decide +kernel
theorem dX10_refuseArgument_2 : decode cX10_refuseArgument 2 = .ok (.getfield 23, 3) := by decide +kernel
theorem dX10_refuseArgument_5 : decode cX10_refuseArgument 5 = .ok (.iconst 1, 1) := by decide +kernel
theorem dX10_refuseArgument_6 : decode cX10_refuseArgument 6 = .ok (.iadd, 1) := by decide +kernel
theorem dX10_refuseArgument_7 : decode cX10_refuseArgument 7 = .ok (.putfield 23, 3) := by decide +kernel
theorem dX10_refuseArgument_10 : decode cX10_refuseArgument 10 = .ok (.new 422, 3) := by decide +kernel
theorem dX10_refuseArgument_13 : decode cX10_refuseArgument 13 = .ok (.dup, 1) := by decide +kernel
theorem dX10_refuseArgument_14 : decode cX10_refuseArgument 14 = .ok (.ldc_w 424, 3) := by decide +kernel
theorem dX10_refuseArgument_17 : decode cX10_refuseArgument 17 = .ok (.invokespecial 426, 3) := by decide +kernel
theorem dX10_refuseArgument_20 : decode cX10_refuseArgument 20 = .ok (.athrow, 1) := by decide +kernel
theorem dX10_isLetter_0 : decode cX10_isLetter 0 = .ok (.iload_n 0, 1) := by decide +kernel
theorem dX10_isLetter_1 : decode cX10_isLetter 1 = .ok (.bipush 97, 2) := by decide +kernel
theorem dX10_isLetter_3 : decode cX10_isLetter 3 = .ok (.if_icmp .lt 13, 3) := by decide +kernel
theorem dX10_isLetter_6 : decode cX10_isLetter 6 = .ok (.iload_n 0, 1) := by decide +kernel
theorem dX10_isLetter_7 : decode cX10_isLetter 7 = .ok (.bipush 122, 2) := by decide +kernel
theorem dX10_isLetter_9 : decode cX10_isLetter 9 = .ok (.if_icmp .gt 7, 3) := by decide +kernel
theorem dX10_isLetter_12 : decode cX10_isLetter 12 = .ok (.iconst 1, 1) := by decide +kernel
theorem dX10_isLetter_13 : decode cX10_isLetter 13 = .ok (.goto 4, 3) := by decide +kernel
theorem dX10_isLetter_16 : decode cX10_isLetter 16 = .ok (.iconst 0, 1) := by decide +kernel
theorem dX10_isLetter_17 : decode cX10_isLetter 17 = .ok (.ireturn, 1) := by decide +kernel
theorem dX10_spelledOn_0 : decode cX10_spelledOn 0 = .ok (.lload_n 0, 1) := by decide +kernel
theorem dX10_spelledOn_1 : decode cX10_spelledOn 1 = .ok (.ldc2_w 427, 3) := by decide +kernel
theorem dX10_spelledOn_4 : decode cX10_spelledOn 4 = .ok (.lmul, 1) := by decide +kernel
theorem dX10_spelledOn_5 : decode cX10_spelledOn 5 = .ok (.iload_n 2, 1) := by decide +kernel
theorem dX10_spelledOn_6 : decode cX10_spelledOn 6 = .ok (.bipush 97, 2) := by decide +kernel
theorem dX10_spelledOn_8 : decode cX10_spelledOn 8 = .ok (.isub, 1) := by decide +kernel
theorem dX10_spelledOn_9 : decode cX10_spelledOn 9 = .ok (.iconst 1, 1) := by decide +kernel
theorem dX10_spelledOn_10 : decode cX10_spelledOn 10 = .ok (.iadd, 1) := by decide +kernel
theorem dX10_spelledOn_11 : decode cX10_spelledOn 11 = .ok (.i2l, 1) := by decide +kernel
theorem dX10_spelledOn_12 : decode cX10_spelledOn 12 = .ok (.ladd, 1) := by decide +kernel
theorem dX10_spelledOn_13 : decode cX10_spelledOn 13 = .ok (.lreturn, 1) := by decide +kernel
theorem dX11_init_0 : decode cX11_init 0 = .ok (.aload_n 0, 1) := by decide +kernel
theorem dX11_init_1 : decode cX11_init 1 = .ok (.invokespecial 1, 3) := by decide +kernel
theorem dX11_init_4 : decode cX11_init 4 = .ok (.aload_n 0, 1) := by decide +kernel
theorem dX11_init_5 : decode cX11_init 5 = .ok (.iconst 2, 1) := by decide +kernel
theorem dX11_init_6 : decode cX11_init 6 = .ok (.newarray .int, 2) := by decide +kernel
theorem dX11_init_8 : decode cX11_init 8 = .ok (.putfield 7, 3) := by decide +kernel
theorem dX11_init_11 : decode cX11_init 11 = .ok (.aload_n 0, 1) := by decide +kernel
theorem dX11_init_12 : decode cX11_init 12 = .ok (.iconst (-1), 1) := by decide +kernel
theorem dX11_init_13 : decode cX11_init 13 = .ok (.putfield 13, 3) := by decide +kernel
theorem dX11_init_16 : decode cX11_init 16 = .ok (.aload_n 0, 1) := by decide +kernel
theorem dX11_init_17 : decode cX11_init 17 = .ok (.sipush 300, 3) := by decide +kernel
theorem dX11_init_20 : decode cX11_init 20 = .ok (.newarray .int, 2) := by decide +kernel
theorem dX11_init_22 : decode cX11_init 22 = .ok (.putfield 17, 3) := by decide +kernel
theorem dX11_init_25 : decode cX11_init 25 = .ok (.aload_n 0, 1) := by decide +kernel
theorem dX11_init_26 : decode cX11_init 26 = .ok (.iconst 4, 1) := by decide +kernel
theorem dX11_init_27 : decode cX11_init 27 = .ok (.putfield 20, 3) := by decide +kernel
theorem dX11_init_30 : decode cX11_init 30 = .ok (.aload_n 0, 1) := by decide +kernel
theorem dX11_init_31 : decode cX11_init 31 = .ok (.bipush 64, 2) := by decide +kernel
theorem dX11_init_33 : decode cX11_init 33 = .ok (.sipush 150, 3) := by decide +kernel
theorem dX11_init_36 : decode cX11_init 36 = .ok (.multianewarray 23 2, 4) := by decide +kernel
theorem dX11_init_40 : decode cX11_init 40 = .ok (.putfield 25, 3) := by decide +kernel
theorem dX11_init_43 : decode cX11_init 43 = .ok (.aload_n 0, 1) := by decide +kernel
theorem dX11_init_44 : decode cX11_init 44 = .ok (.bipush 64, 2) := by decide +kernel
theorem dX11_init_46 : decode cX11_init 46 = .ok (.newarray .int, 2) := by decide +kernel
theorem dX11_init_48 : decode cX11_init 48 = .ok (.putfield 28, 3) := by decide +kernel
theorem dX11_init_51 : decode cX11_init 51 = .ok (.aload_n 0, 1) := by decide +kernel
theorem dX11_init_52 : decode cX11_init 52 = .ok (.bipush 64, 2) := by decide +kernel
theorem dX11_init_54 : decode cX11_init 54 = .ok (.newarray .int, 2) := by decide +kernel
theorem dX11_init_56 : decode cX11_init 56 = .ok (.putfield 31, 3) := by decide +kernel
theorem dX11_init_59 : decode cX11_init 59 = .ok (.aload_n 0, 1) := by decide +kernel
theorem dX11_init_60 : decode cX11_init 60 = .ok (.sipush 256, 3) := by decide +kernel
theorem dX11_init_63 : decode cX11_init 63 = .ok (.newarray .int, 2) := by decide +kernel
theorem dX11_init_65 : decode cX11_init 65 = .ok (.putfield 34, 3) := by decide +kernel
theorem dX11_init_68 : decode cX11_init 68 = .ok (.aload_n 0, 1) := by decide +kernel
theorem dX11_init_69 : decode cX11_init 69 = .ok (.sipush 256, 3) := by decide +kernel
theorem dX11_init_72 : decode cX11_init 72 = .ok (.newarray .long, 2) := by decide +kernel
theorem dX11_init_74 : decode cX11_init 74 = .ok (.putfield 37, 3) := by decide +kernel
theorem dX11_init_77 : decode cX11_init 77 = .ok (.aload_n 0, 1) := by decide +kernel
theorem dX11_init_78 : decode cX11_init 78 = .ok (.sipush 256, 3) := by decide +kernel
theorem dX11_init_81 : decode cX11_init 81 = .ok (.bipush 64, 2) := by decide +kernel
theorem dX11_init_83 : decode cX11_init 83 = .ok (.multianewarray 23 2, 4) := by decide +kernel
theorem dX11_init_87 : decode cX11_init 87 = .ok (.putfield 41, 3) := by decide +kernel
theorem dX11_init_90 : decode cX11_init 90 = .ok (.aload_n 0, 1) := by decide +kernel
theorem dX11_init_91 : decode cX11_init 91 = .ok (.bipush 24, 2) := by decide +kernel
theorem dX11_init_93 : decode cX11_init 93 = .ok (.newarray .int, 2) := by decide +kernel
theorem dX11_init_95 : decode cX11_init 95 = .ok (.putfield 44, 3) := by decide +kernel
theorem dX11_init_98 : decode cX11_init 98 = .ok (.aload_n 0, 1) := by decide +kernel
theorem dX11_init_99 : decode cX11_init 99 = .ok (.bipush 24, 2) := by decide +kernel
theorem dX11_init_101 : decode cX11_init 101 = .ok (.newarray .int, 2) := by decide +kernel
theorem dX11_init_103 : decode cX11_init 103 = .ok (.putfield 47, 3) := by decide +kernel
theorem dX11_init_106 : decode cX11_init 106 = .ok (.aload_n 0, 1) := by decide +kernel
theorem dX11_init_107 : decode cX11_init 107 = .ok (.bipush 24, 2) := by decide +kernel
theorem dX11_init_109 : decode cX11_init 109 = .ok (.newarray .int, 2) := by decide +kernel
theorem dX11_init_111 : decode cX11_init 111 = .ok (.putfield 50, 3) := by decide +kernel
theorem dX11_init_114 : decode cX11_init 114 = .ok (.aload_n 0, 1) := by decide +kernel
theorem dX11_init_115 : decode cX11_init 115 = .ok (.bipush 6, 2) := by decide +kernel
theorem dX11_init_117 : decode cX11_init 117 = .ok (.newarray .int, 2) := by decide +kernel
theorem dX11_init_119 : decode cX11_init 119 = .ok (.putfield 53, 3) := by decide +kernel
theorem dX11_init_122 : decode cX11_init 122 = .ok (.aload_n 0, 1) := by decide +kernel
theorem dX11_init_123 : decode cX11_init 123 = .ok (.bipush 6, 2) := by decide +kernel
theorem dX11_init_125 : decode cX11_init 125 = .ok (.newarray .int, 2) := by decide +kernel
theorem dX11_init_127 : decode cX11_init 127 = .ok (.putfield 56, 3) := by decide +kernel
theorem dX11_init_130 : decode cX11_init 130 = .ok (.aload_n 0, 1) := by decide +kernel
theorem dX11_init_131 : decode cX11_init 131 = .ok (.bipush 6, 2) := by decide +kernel
theorem dX11_init_133 : decode cX11_init 133 = .ok (.iconst 4, 1) := by decide +kernel
theorem dX11_init_134 : decode cX11_init 134 = .ok (.multianewarray 23 2, 4) := by decide +kernel
theorem dX11_init_138 : decode cX11_init 138 = .ok (.putfield 59, 3) := by decide +kernel
theorem dX11_init_141 : decode cX11_init 141 = .ok (.aload_n 0, 1) := by decide +kernel
theorem dX11_init_142 : decode cX11_init 142 = .ok (.bipush 24, 2) := by decide +kernel
theorem dX11_init_144 : decode cX11_init 144 = .ok (.iconst 4, 1) := by decide +kernel
theorem dX11_init_145 : decode cX11_init 145 = .ok (.multianewarray 23 2, 4) := by decide +kernel
theorem dX11_init_149 : decode cX11_init 149 = .ok (.putfield 62, 3) := by decide +kernel
theorem dX11_init_152 : decode cX11_init 152 = .ok (.aload_n 0, 1) := by decide +kernel
theorem dX11_init_153 : decode cX11_init 153 = .ok (.bipush 64, 2) := by decide +kernel
theorem dX11_init_155 : decode cX11_init 155 = .ok (.newarray .int, 2) := by decide +kernel
theorem dX11_init_157 : decode cX11_init 157 = .ok (.putfield 65, 3) := by decide +kernel
theorem dX11_init_160 : decode cX11_init 160 = .ok (.aload_n 0, 1) := by decide +kernel
theorem dX11_init_161 : decode cX11_init 161 = .ok (.iconst (-1), 1) := by decide +kernel
theorem dX11_init_162 : decode cX11_init 162 = .ok (.putfield 68, 3) := by decide +kernel
theorem dX11_init_165 : decode cX11_init 165 = .ok (.aload_n 0, 1) := by decide +kernel
theorem dX11_init_166 : decode cX11_init 166 = .ok (.bipush 64, 2) := by decide +kernel
theorem dX11_init_168 : decode cX11_init 168 = .ok (.newarray .int, 2) := by decide +kernel
theorem dX11_init_170 : decode cX11_init 170 = .ok (.putfield 71, 3) := by decide +kernel
theorem dX11_init_173 : decode cX11_init 173 = .ok (.aload_n 0, 1) := by decide +kernel
theorem dX11_init_174 : decode cX11_init 174 = .ok (.bipush 64, 2) := by decide +kernel
theorem dX11_init_176 : decode cX11_init 176 = .ok (.newarray .int, 2) := by decide +kernel
theorem dX11_init_178 : decode cX11_init 178 = .ok (.putfield 74, 3) := by decide +kernel
theorem dX11_init_181 : decode cX11_init 181 = .ok (.aload_n 0, 1) := by decide +kernel
theorem dX11_init_182 : decode cX11_init 182 = .ok (.bipush 24, 2) := by decide +kernel
theorem dX11_init_184 : decode cX11_init 184 = .ok (.bipush 64, 2) := by decide +kernel
theorem dX11_init_186 : decode cX11_init 186 = .ok (.multianewarray 23 2, 4) := by decide +kernel
theorem dX11_init_190 : decode cX11_init 190 = .ok (.putfield 77, 3) := by decide +kernel
theorem dX11_init_193 : decode cX11_init 193 = .ok (.aload_n 0, 1) := by decide +kernel
theorem dX11_init_194 : decode cX11_init 194 = .ok (.bipush 24, 2) := by decide +kernel
theorem dX11_init_196 : decode cX11_init 196 = .ok (.bipush 64, 2) := by decide +kernel
theorem dX11_init_198 : decode cX11_init 198 = .ok (.multianewarray 23 2, 4) := by decide +kernel
theorem dX11_init_202 : decode cX11_init 202 = .ok (.putfield 80, 3) := by decide +kernel
theorem dX11_init_205 : decode cX11_init 205 = .ok (.aload_n 0, 1) := by decide +kernel
theorem dX11_init_206 : decode cX11_init 206 = .ok (.bipush 24, 2) := by decide +kernel
theorem dX11_init_208 : decode cX11_init 208 = .ok (.bipush 32, 2) := by decide +kernel
theorem dX11_init_210 : decode cX11_init 210 = .ok (.multianewarray 23 2, 4) := by decide +kernel
theorem dX11_init_214 : decode cX11_init 214 = .ok (.putfield 83, 3) := by decide +kernel
theorem dX11_init_217 : decode cX11_init 217 = .ok (.aload_n 0, 1) := by decide +kernel
theorem dX11_init_218 : decode cX11_init 218 = .ok (.bipush 24, 2) := by decide +kernel
theorem dX11_init_220 : decode cX11_init 220 = .ok (.newarray .int, 2) := by decide +kernel
theorem dX11_init_222 : decode cX11_init 222 = .ok (.putfield 86, 3) := by decide +kernel
theorem dX11_init_225 : decode cX11_init 225 = .ok (.aload_n 0, 1) := by decide +kernel
theorem dX11_init_226 : decode cX11_init 226 = .ok (.bipush 24, 2) := by decide +kernel
theorem dX11_init_228 : decode cX11_init 228 = .ok (.newarray .int, 2) := by decide +kernel
theorem dX11_init_230 : decode cX11_init 230 = .ok (.putfield 89, 3) := by decide +kernel
theorem dX11_init_233 : decode cX11_init 233 = .ok (.aload_n 0, 1) := by decide +kernel
theorem dX11_init_234 : decode cX11_init 234 = .ok (.bipush 24, 2) := by decide +kernel
theorem dX11_init_236 : decode cX11_init 236 = .ok (.newarray .int, 2) := by decide +kernel
theorem dX11_init_238 : decode cX11_init 238 = .ok (.putfield 92, 3) := by decide +kernel
theorem dX11_init_241 : decode cX11_init 241 = .ok (.aload_n 0, 1) := by decide +kernel
theorem dX11_init_242 : decode cX11_init 242 = .ok (.bipush 24, 2) := by decide +kernel
theorem dX11_init_244 : decode cX11_init 244 = .ok (.newarray .int, 2) := by decide +kernel
theorem dX11_init_246 : decode cX11_init 246 = .ok (.putfield 95, 3) := by decide +kernel
theorem dX11_init_249 : decode cX11_init 249 = .ok (.aload_n 0, 1) := by decide +kernel
theorem dX11_init_250 : decode cX11_init 250 = .ok (.bipush 24, 2) := by decide +kernel
theorem dX11_init_252 : decode cX11_init 252 = .ok (.newarray .int, 2) := by decide +kernel
theorem dX11_init_254 : decode cX11_init 254 = .ok (.putfield 98, 3) := by decide +kernel
theorem dX11_init_257 : decode cX11_init 257 = .ok (.aload_n 0, 1) := by decide +kernel
theorem dX11_init_258 : decode cX11_init 258 = .ok (.bipush 24, 2) := by decide +kernel
theorem dX11_init_260 : decode cX11_init 260 = .ok (.newarray .int, 2) := by decide +kernel
theorem dX11_init_262 : decode cX11_init 262 = .ok (.putfield 101, 3) := by decide +kernel
theorem dX11_init_265 : decode cX11_init 265 = .ok (.aload_n 0, 1) := by decide +kernel
theorem dX11_init_266 : decode cX11_init 266 = .ok (.bipush 24, 2) := by decide +kernel
theorem dX11_init_268 : decode cX11_init 268 = .ok (.newarray .int, 2) := by decide +kernel
theorem dX11_init_270 : decode cX11_init 270 = .ok (.putfield 104, 3) := by decide +kernel
theorem dX11_init_273 : decode cX11_init 273 = .ok (.aload_n 0, 1) := by decide +kernel
theorem dX11_init_274 : decode cX11_init 274 = .ok (.bipush 24, 2) := by decide +kernel
theorem dX11_init_276 : decode cX11_init 276 = .ok (.newarray .boolean, 2) := by decide +kernel
theorem dX11_init_278 : decode cX11_init 278 = .ok (.putfield 107, 3) := by decide +kernel
theorem dX11_init_281 : decode cX11_init 281 = .ok (.aload_n 0, 1) := by decide +kernel
theorem dX11_init_282 : decode cX11_init 282 = .ok (.bipush 11, 2) := by decide +kernel
theorem dX11_init_284 : decode cX11_init 284 = .ok (.newarray .int, 2) := by decide +kernel
theorem dX11_init_286 : decode cX11_init 286 = .ok (.putfield 111, 3) := by decide +kernel
theorem dX11_init_289 : decode cX11_init 289 = .ok (.aload_n 0, 1) := by decide +kernel
theorem dX11_init_290 : decode cX11_init 290 = .ok (.bipush 11, 2) := by decide +kernel
theorem dX11_init_292 : decode cX11_init 292 = .ok (.newarray .int, 2) := by decide +kernel
theorem dX11_init_294 : decode cX11_init 294 = .ok (.putfield 114, 3) := by decide +kernel
theorem dX11_init_297 : decode cX11_init 297 = .ok (.return_, 1) := by decide +kernel
theorem dX11_thrown_0 : decode cX11_thrown 0 = .ok (.aload_n 0, 1) := by decide +kernel
theorem dX11_thrown_1 : decode cX11_thrown 1 = .ok (.getfield 117, 3) := by decide +kernel
theorem dX11_thrown_4 : decode cX11_thrown 4 = .ok (.ireturn, 1) := by decide +kernel
theorem dX11_bad_0 : decode cX11_bad 0 = .ok (.iload_n 1, 1) := by decide +kernel
theorem dX11_bad_1 : decode cX11_bad 1 = .ok (.ifCond .eq 25, 3) := by decide +kernel
theorem dX11_bad_4 : decode cX11_bad 4 = .ok (.aload_n 0, 1) := by decide +kernel
theorem dX11_bad_5 : decode cX11_bad 5 = .ok (.getfield 117, 3) := by decide +kernel
theorem dX11_bad_8 : decode cX11_bad 8 = .ok (.ifCond .ne 18, 3) := by decide +kernel
theorem dX11_bad_11 : decode cX11_bad 11 = .ok (.aload_n 0, 1) := by decide +kernel
theorem dX11_bad_12 : decode cX11_bad 12 = .ok (.iload_n 2, 1) := by decide +kernel
theorem dX11_bad_13 : decode cX11_bad 13 = .ok (.putfield 117, 3) := by decide +kernel
theorem dX11_bad_16 : decode cX11_bad 16 = .ok (.aload_n 0, 1) := by decide +kernel
theorem dX11_bad_17 : decode cX11_bad 17 = .ok (.getfield 7, 3) := by decide +kernel
theorem dX11_bad_20 : decode cX11_bad 20 = .ok (.iload_n 3, 1) := by decide +kernel
theorem dX11_bad_21 : decode cX11_bad 21 = .ok (.dup2, 1) := by decide +kernel
theorem dX11_bad_22 : decode cX11_bad 22 = .ok (.iaload, 1) := by decide +kernel
theorem dX11_bad_23 : decode cX11_bad 23 = .ok (.iconst 1, 1) := by decide +kernel
theorem dX11_bad_24 : decode cX11_bad 24 = .ok (.iadd, 1) := by decide +kernel
theorem dX11_bad_25 : decode cX11_bad 25 = .ok (.iastore, 1) := by decide +kernel
theorem dX11_bad_26 : decode cX11_bad 26 = .ok (.aload_n 0, 1) := by decide +kernel
theorem dX11_bad_27 : decode cX11_bad 27 = .ok (.getfield 117, 3) := by decide +kernel
theorem dX11_bad_30 : decode cX11_bad 30 = .ok (.ifCond .eq 7, 3) := by decide +kernel
theorem dX11_bad_33 : decode cX11_bad 33 = .ok (.iconst 1, 1) := by decide +kernel
theorem dX11_bad_34 : decode cX11_bad 34 = .ok (.goto 4, 3) := by decide +kernel
theorem dX11_bad_37 : decode cX11_bad 37 = .ok (.iconst 0, 1) := by decide +kernel
theorem dX11_bad_38 : decode cX11_bad 38 = .ok (.ireturn, 1) := by decide +kernel
theorem dX11_in_0 : decode cX11_in 0 = .ok (.iload_n 0, 1) := by decide +kernel
theorem dX11_in_1 : decode cX11_in 1 = .ok (.iload_n 1, 1) := by decide +kernel
theorem dX11_in_2 : decode cX11_in 2 = .ok (.if_icmp .lt 12, 3) := by decide +kernel
theorem dX11_in_5 : decode cX11_in 5 = .ok (.iload_n 0, 1) := by decide +kernel
theorem dX11_in_6 : decode cX11_in 6 = .ok (.iload_n 2, 1) := by decide +kernel
theorem dX11_in_7 : decode cX11_in 7 = .ok (.if_icmp .gt 7, 3) := by decide +kernel
theorem dX11_in_10 : decode cX11_in 10 = .ok (.iconst 1, 1) := by decide +kernel
theorem dX11_in_11 : decode cX11_in 11 = .ok (.goto 4, 3) := by decide +kernel
theorem dX11_in_14 : decode cX11_in 14 = .ok (.iconst 0, 1) := by decide +kernel
theorem dX11_in_15 : decode cX11_in 15 = .ok (.ireturn, 1) := by decide +kernel
theorem dX11_more_0 : decode cX11_more 0 = .ok (.iload_n 0, 1) := by decide +kernel
theorem dX11_more_1 : decode cX11_more 1 = .ok (.iload_n 1, 1) := by decide +kernel
theorem dX11_more_2 : decode cX11_more 2 = .ok (.if_icmp .le 7, 3) := by decide +kernel
theorem dX11_more_5 : decode cX11_more 5 = .ok (.iload_n 0, 1) := by decide +kernel
theorem dX11_more_6 : decode cX11_more 6 = .ok (.goto 4, 3) := by decide +kernel
theorem dX11_more_9 : decode cX11_more 9 = .ok (.iload_n 1, 1) := by decide +kernel
theorem dX11_more_10 : decode cX11_more 10 = .ok (.ireturn, 1) := by decide +kernel
theorem dX11_less_0 : decode cX11_less 0 = .ok (.iload_n 0, 1) := by decide +kernel
theorem dX11_less_1 : decode cX11_less 1 = .ok (.iload_n 1, 1) := by decide +kernel
theorem dX11_less_2 : decode cX11_less 2 = .ok (.if_icmp .ge 7, 3) := by decide +kernel
theorem dX11_less_5 : decode cX11_less 5 = .ok (.iload_n 0, 1) := by decide +kernel
theorem dX11_less_6 : decode cX11_less 6 = .ok (.goto 4, 3) := by decide +kernel
theorem dX11_less_9 : decode cX11_less 9 = .ok (.iload_n 1, 1) := by decide +kernel
theorem dX11_less_10 : decode cX11_less 10 = .ok (.ireturn, 1) := by decide +kernel
theorem dX11_feed_0 : decode cX11_feed 0 = .ok (.aload_n 0, 1) := by decide +kernel
theorem dX11_feed_1 : decode cX11_feed 1 = .ok (.iconst 0, 1) := by decide +kernel
theorem dX11_feed_2 : decode cX11_feed 2 = .ok (.putfield 117, 3) := by decide +kernel
theorem dX11_feed_5 : decode cX11_feed 5 = .ok (.aload_n 0, 1) := by decide +kernel
theorem dX11_feed_6 : decode cX11_feed 6 = .ok (.getfield 120, 3) := by decide +kernel
theorem dX11_feed_9 : decode cX11_feed 9 = .ok (.bipush 20, 2) := by decide +kernel
theorem dX11_feed_11 : decode cX11_feed 11 = .ok (.iadd, 1) := by decide +kernel
theorem dX11_feed_12 : decode cX11_feed 12 = .ok (.sipush 300, 3) := by decide +kernel
theorem dX11_feed_15 : decode cX11_feed 15 = .ok (.if_icmp .le 5, 3) := by decide +kernel
theorem dX11_feed_18 : decode cX11_feed 18 = .ok (.iconst (-1), 1) := by decide +kernel
theorem dX11_feed_19 : decode cX11_feed 19 = .ok (.ireturn, 1) := by decide +kernel
theorem dX11_feed_20 : decode cX11_feed 20 = .ok (.iconst 0, 1) := by decide +kernel
theorem dX11_feed_21 : decode cX11_feed 21 = .ok (.istore 6, 2) := by decide +kernel
theorem dX11_feed_23 : decode cX11_feed 23 = .ok (.iload 6, 2) := by decide +kernel
theorem dX11_feed_25 : decode cX11_feed 25 = .ok (.bipush 20, 2) := by decide +kernel
theorem dX11_feed_27 : decode cX11_feed 27 = .ok (.if_icmp .ge 93, 3) := by decide +kernel
theorem dX11_feed_30 : decode cX11_feed 30 = .ok (.iload 6, 2) := by decide +kernel
theorem dX11_feed_32 : decode cX11_feed 32 = .ok (.iconst 4, 1) := by decide +kernel
theorem dX11_feed_33 : decode cX11_feed 33 = .ok (.if_icmp .ge 7, 3) := by decide +kernel
theorem dX11_feed_36 : decode cX11_feed 36 = .ok (.iload_n 1, 1) := by decide +kernel
theorem dX11_feed_37 : decode cX11_feed 37 = .ok (.goto 39, 3) := by decide +kernel
theorem dX11_feed_40 : decode cX11_feed 40 = .ok (.iload 6, 2) := by decide +kernel
theorem dX11_feed_42 : decode cX11_feed 42 = .ok (.bipush 8, 2) := by decide +kernel
theorem dX11_feed_44 : decode cX11_feed 44 = .ok (.if_icmp .ge 7, 3) := by decide +kernel
theorem dX11_feed_47 : decode cX11_feed 47 = .ok (.iload_n 2, 1) := by decide +kernel
theorem dX11_feed_48 : decode cX11_feed 48 = .ok (.goto 28, 3) := by decide +kernel
theorem dX11_feed_51 : decode cX11_feed 51 = .ok (.iload 6, 2) := by decide +kernel
theorem dX11_feed_53 : decode cX11_feed 53 = .ok (.bipush 12, 2) := by decide +kernel
theorem dX11_feed_55 : decode cX11_feed 55 = .ok (.if_icmp .ge 7, 3) := by decide +kernel
theorem dX11_feed_58 : decode cX11_feed 58 = .ok (.iload_n 3, 1) := by decide +kernel
theorem dX11_feed_59 : decode cX11_feed 59 = .ok (.goto 17, 3) := by decide +kernel
theorem dX11_feed_62 : decode cX11_feed 62 = .ok (.iload 6, 2) := by decide +kernel
theorem dX11_feed_64 : decode cX11_feed 64 = .ok (.bipush 16, 2) := by decide +kernel
theorem dX11_feed_66 : decode cX11_feed 66 = .ok (.if_icmp .ge 8, 3) := by decide +kernel
theorem dX11_feed_69 : decode cX11_feed 69 = .ok (.iload 4, 2) := by decide +kernel
theorem dX11_feed_71 : decode cX11_feed 71 = .ok (.goto 5, 3) := by decide +kernel
theorem dX11_feed_74 : decode cX11_feed 74 = .ok (.iload 5, 2) := by decide +kernel
theorem dX11_feed_76 : decode cX11_feed 76 = .ok (.istore 7, 2) := by decide +kernel
theorem dX11_feed_78 : decode cX11_feed 78 = .ok (.aload_n 0, 1) := by decide +kernel
theorem dX11_feed_79 : decode cX11_feed 79 = .ok (.getfield 17, 3) := by decide +kernel
theorem dX11_feed_82 : decode cX11_feed 82 = .ok (.aload_n 0, 1) := by decide +kernel
theorem dX11_feed_83 : decode cX11_feed 83 = .ok (.getfield 120, 3) := by decide +kernel
theorem dX11_feed_86 : decode cX11_feed 86 = .ok (.iload 7, 2) := by decide +kernel
theorem dX11_feed_88 : decode cX11_feed 88 = .ok (.bipush 24, 2) := by decide +kernel
theorem dX11_feed_90 : decode cX11_feed 90 = .ok (.bipush 8, 2) := by decide +kernel
theorem dX11_feed_92 : decode cX11_feed 92 = .ok (.iload 6, 2) := by decide +kernel
theorem dX11_feed_94 : decode cX11_feed 94 = .ok (.iconst 4, 1) := by decide +kernel
theorem dX11_feed_95 : decode cX11_feed 95 = .ok (.irem, 1) := by decide +kernel
theorem dX11_feed_96 : decode cX11_feed 96 = .ok (.imul, 1) := by decide +kernel
theorem dX11_feed_97 : decode cX11_feed 97 = .ok (.isub, 1) := by decide +kernel
theorem dX11_feed_98 : decode cX11_feed 98 = .ok (.ishr, 1) := by decide +kernel
theorem dX11_feed_99 : decode cX11_feed 99 = .ok (.sipush 255, 3) := by decide +kernel
theorem dX11_feed_102 : decode cX11_feed 102 = .ok (.iand, 1) := by decide +kernel
theorem dX11_feed_103 : decode cX11_feed 103 = .ok (.iastore, 1) := by decide +kernel
theorem dX11_feed_104 : decode cX11_feed 104 = .ok (.aload_n 0, 1) := by decide +kernel
theorem dX11_feed_105 : decode cX11_feed 105 = .ok (.dup, 1) := by decide +kernel
theorem dX11_feed_106 : decode cX11_feed 106 = .ok (.getfield 120, 3) := by decide +kernel
theorem dX11_feed_109 : decode cX11_feed 109 = .ok (.iconst 1, 1) := by decide +kernel
theorem dX11_feed_110 : decode cX11_feed 110 = .ok (.iadd, 1) := by decide +kernel
theorem dX11_feed_111 : decode cX11_feed 111 = .ok (.putfield 120, 3) := by decide +kernel
theorem dX11_feed_114 : decode cX11_feed 114 = .ok (.iinc 6 1, 3) := by decide +kernel
theorem dX11_feed_117 : decode cX11_feed 117 = .ok (.goto (-94), 3) := by decide +kernel
theorem dX11_feed_120 : decode cX11_feed 120 = .ok (.aload_n 0, 1) := by decide +kernel
theorem dX11_feed_121 : decode cX11_feed 121 = .ok (.getfield 120, 3) := by decide +kernel
theorem dX11_feed_124 : decode cX11_feed 124 = .ok (.ireturn, 1) := by decide +kernel
theorem dX11_byteAt_0 : decode cX11_byteAt 0 = .ok (.iload_n 1, 1) := by decide +kernel
theorem dX11_byteAt_1 : decode cX11_byteAt 1 = .ok (.aload_n 0, 1) := by decide +kernel
theorem dX11_byteAt_2 : decode cX11_byteAt 2 = .ok (.getfield 123, 3) := by decide +kernel
theorem dX11_byteAt_5 : decode cX11_byteAt 5 = .ok (.if_icmp .lt 7, 3) := by decide +kernel
theorem dX11_byteAt_8 : decode cX11_byteAt 8 = .ok (.iconst (-1), 1) := by decide +kernel
theorem dX11_byteAt_9 : decode cX11_byteAt 9 = .ok (.goto 9, 3) := by decide +kernel
theorem dX11_byteAt_12 : decode cX11_byteAt 12 = .ok (.aload_n 0, 1) := by decide +kernel
theorem dX11_byteAt_13 : decode cX11_byteAt 13 = .ok (.getfield 17, 3) := by decide +kernel
theorem dX11_byteAt_16 : decode cX11_byteAt 16 = .ok (.iload_n 1, 1) := by decide +kernel
theorem dX11_byteAt_17 : decode cX11_byteAt 17 = .ok (.iaload, 1) := by decide +kernel
theorem dX11_byteAt_18 : decode cX11_byteAt 18 = .ok (.ireturn, 1) := by decide +kernel
theorem dX11_isSmall_0 : decode cX11_isSmall 0 = .ok (.iload_n 0, 1) := by decide +kernel
theorem dX11_isSmall_1 : decode cX11_isSmall 1 = .ok (.bipush 97, 2) := by decide +kernel
theorem dX11_isSmall_3 : decode cX11_isSmall 3 = .ok (.if_icmp .lt 13, 3) := by decide +kernel
theorem dX11_isSmall_6 : decode cX11_isSmall 6 = .ok (.iload_n 0, 1) := by decide +kernel
theorem dX11_isSmall_7 : decode cX11_isSmall 7 = .ok (.bipush 122, 2) := by decide +kernel
theorem dX11_isSmall_9 : decode cX11_isSmall 9 = .ok (.if_icmp .gt 7, 3) := by decide +kernel
theorem dX11_isSmall_12 : decode cX11_isSmall 12 = .ok (.iconst 1, 1) := by decide +kernel
theorem dX11_isSmall_13 : decode cX11_isSmall 13 = .ok (.goto 4, 3) := by decide +kernel
theorem dX11_isSmall_16 : decode cX11_isSmall 16 = .ok (.iconst 0, 1) := by decide +kernel
theorem dX11_isSmall_17 : decode cX11_isSmall 17 = .ok (.ireturn, 1) := by decide +kernel
theorem dX11_wrong_0 : decode cX11_wrong 0 = .ok (.aload_n 0, 1) := by decide +kernel
theorem dX11_wrong_1 : decode cX11_wrong 1 = .ok (.getfield 126, 3) := by decide +kernel
theorem dX11_wrong_4 : decode cX11_wrong 4 = .ok (.ifCond .ne 13, 3) := by decide +kernel
theorem dX11_wrong_7 : decode cX11_wrong 7 = .ok (.aload_n 0, 1) := by decide +kernel
theorem dX11_wrong_8 : decode cX11_wrong 8 = .ok (.iload_n 1, 1) := by decide +kernel
theorem dX11_wrong_9 : decode cX11_wrong 9 = .ok (.putfield 126, 3) := by decide +kernel
theorem dX11_wrong_12 : decode cX11_wrong 12 = .ok (.aload_n 0, 1) := by decide +kernel
theorem dX11_wrong_13 : decode cX11_wrong 13 = .ok (.iload_n 2, 1) := by decide +kernel
theorem dX11_wrong_14 : decode cX11_wrong 14 = .ok (.putfield 129, 3) := by decide +kernel
theorem dX11_wrong_17 : decode cX11_wrong 17 = .ok (.return_, 1) := by decide +kernel
theorem dX11_fine_0 : decode cX11_fine 0 = .ok (.aload_n 0, 1) := by decide +kernel
theorem dX11_fine_1 : decode cX11_fine 1 = .ok (.getfield 126, 3) := by decide +kernel
theorem dX11_fine_4 : decode cX11_fine 4 = .ok (.ifCond .ne 7, 3) := by decide +kernel
theorem dX11_fine_7 : decode cX11_fine 7 = .ok (.iconst 1, 1) := by decide +kernel
theorem dX11_fine_8 : decode cX11_fine 8 = .ok (.goto 4, 3) := by decide +kernel
theorem dX11_fine_11 : decode cX11_fine 11 = .ok (.iconst 0, 1) := by decide +kernel
theorem dX11_fine_12 : decode cX11_fine 12 = .ok (.ireturn, 1) := by decide +kernel
theorem dX11_starts_0 : decode cX11_starts 0 = .ok (.aload_n 0, 1) := by decide +kernel
theorem dX11_starts_1 : decode cX11_starts 1 = .ok (.iconst 0, 1) := by decide +kernel
theorem dX11_starts_2 : decode cX11_starts 2 = .ok (.putfield 120, 3) := by decide +kernel
theorem dX11_starts_5 : decode cX11_starts 5 = .ok (.aload_n 0, 1) := by decide +kernel
theorem dX11_starts_6 : decode cX11_starts 6 = .ok (.iload_n 1, 1) := by decide +kernel
theorem dX11_starts_7 : decode cX11_starts 7 = .ok (.putfield 123, 3) := by decide +kernel
theorem dX11_starts_10 : decode cX11_starts 10 = .ok (.aload_n 0, 1) := by decide +kernel
theorem dX11_starts_11 : decode cX11_starts 11 = .ok (.iconst 0, 1) := by decide +kernel
theorem dX11_starts_12 : decode cX11_starts 12 = .ok (.putfield 132, 3) := by decide +kernel
theorem dX11_starts_15 : decode cX11_starts 15 = .ok (.aload_n 0, 1) := by decide +kernel
theorem dX11_starts_16 : decode cX11_starts 16 = .ok (.iconst 0, 1) := by decide +kernel
theorem dX11_starts_17 : decode cX11_starts 17 = .ok (.putfield 126, 3) := by decide +kernel
theorem dX11_starts_20 : decode cX11_starts 20 = .ok (.aload_n 0, 1) := by decide +kernel
theorem dX11_starts_21 : decode cX11_starts 21 = .ok (.iconst (-1), 1) := by decide +kernel
theorem dX11_starts_22 : decode cX11_starts 22 = .ok (.putfield 129, 3) := by decide +kernel
theorem dX11_starts_25 : decode cX11_starts 25 = .ok (.return_, 1) := by decide +kernel
theorem dX11_blanks_0 : decode cX11_blanks 0 = .ok (.aload_n 0, 1) := by decide +kernel
theorem dX11_blanks_1 : decode cX11_blanks 1 = .ok (.aload_n 0, 1) := by decide +kernel
theorem dX11_blanks_2 : decode cX11_blanks 2 = .ok (.getfield 132, 3) := by decide +kernel
theorem dX11_blanks_5 : decode cX11_blanks 5 = .ok (.invokevirtual 135, 3) := by decide +kernel
theorem dX11_blanks_8 : decode cX11_blanks 8 = .ok (.bipush 32, 2) := by decide +kernel
theorem dX11_blanks_10 : decode cX11_blanks 10 = .ok (.if_icmp .ne 16, 3) := by decide +kernel
theorem dX11_blanks_13 : decode cX11_blanks 13 = .ok (.aload_n 0, 1) := by decide +kernel
theorem dX11_blanks_14 : decode cX11_blanks 14 = .ok (.dup, 1) := by decide +kernel
theorem dX11_blanks_15 : decode cX11_blanks 15 = .ok (.getfield 132, 3) := by decide +kernel
theorem dX11_blanks_18 : decode cX11_blanks 18 = .ok (.iconst 1, 1) := by decide +kernel
theorem dX11_blanks_19 : decode cX11_blanks 19 = .ok (.iadd, 1) := by decide +kernel
theorem dX11_blanks_20 : decode cX11_blanks 20 = .ok (.putfield 132, 3) := by decide +kernel
theorem dX11_blanks_23 : decode cX11_blanks 23 = .ok (.goto (-23), 3) := by decide +kernel
theorem dX11_blanks_26 : decode cX11_blanks 26 = .ok (.aload_n 0, 1) := by decide +kernel
theorem dX11_blanks_27 : decode cX11_blanks 27 = .ok (.aload_n 0, 1) := by decide +kernel
theorem dX11_blanks_28 : decode cX11_blanks 28 = .ok (.getfield 132, 3) := by decide +kernel
theorem dX11_blanks_31 : decode cX11_blanks 31 = .ok (.invokevirtual 135, 3) := by decide +kernel
theorem dX11_blanks_34 : decode cX11_blanks 34 = .ok (.ireturn, 1) := by decide +kernel
theorem dX11_readsWord_0 : decode cX11_readsWord 0 = .ok (.aload_n 0, 1) := by decide +kernel
theorem dX11_readsWord_1 : decode cX11_readsWord 1 = .ok (.lconst 0, 1) := by decide +kernel
theorem dX11_readsWord_2 : decode cX11_readsWord 2 = .ok (.putfield 139, 3) := by decide +kernel
theorem dX11_readsWord_5 : decode cX11_readsWord 5 = .ok (.aload_n 0, 1) := by decide +kernel
theorem dX11_readsWord_6 : decode cX11_readsWord 6 = .ok (.iconst 0, 1) := by decide +kernel
theorem dX11_readsWord_7 : decode cX11_readsWord 7 = .ok (.putfield 143, 3) := by decide +kernel
theorem dX11_readsWord_10 : decode cX11_readsWord 10 = .ok (.aload_n 0, 1) := by decide +kernel
theorem dX11_readsWord_11 : decode cX11_readsWord 11 = .ok (.aload_n 0, 1) := by decide +kernel
theorem dX11_readsWord_12 : decode cX11_readsWord 12 = .ok (.getfield 132, 3) := by decide +kernel
theorem dX11_readsWord_15 : decode cX11_readsWord 15 = .ok (.invokevirtual 135, 3) := by decide +kernel
theorem dX11_readsWord_18 : decode cX11_readsWord 18 = .ok (.invokestatic 146, 3) := by decide +kernel
theorem dX11_readsWord_21 : decode cX11_readsWord 21 = .ok (.ifCond .ne 12, 3) := by decide +kernel
theorem dX11_readsWord_24 : decode cX11_readsWord 24 = .ok (.aload_n 0, 1) := by decide +kernel
theorem dX11_readsWord_25 : decode cX11_readsWord 25 = .ok (.iconst 1, 1) := by decide +kernel
theorem dX11_readsWord_26 : decode cX11_readsWord 26 = .ok (.aload_n 0, 1) := by decide +kernel
theorem dX11_readsWord_27 : decode cX11_readsWord 27 = .ok (.getfield 132, 3) := by decide +kernel
theorem dX11_readsWord_30 : decode cX11_readsWord 30 = .ok (.invokevirtual 150, 3) := by decide +kernel
theorem dX11_readsWord_33 : decode cX11_readsWord 33 = .ok (.aload_n 0, 1) := by decide +kernel
theorem dX11_readsWord_34 : decode cX11_readsWord 34 = .ok (.invokevirtual 154, 3) := by decide +kernel
theorem dX11_readsWord_37 : decode cX11_readsWord 37 = .ok (.ifCond .eq 86, 3) := by decide +kernel
theorem dX11_readsWord_40 : decode cX11_readsWord 40 = .ok (.aload_n 0, 1) := by decide +kernel
theorem dX11_readsWord_41 : decode cX11_readsWord 41 = .ok (.aload_n 0, 1) := by decide +kernel
theorem dX11_readsWord_42 : decode cX11_readsWord 42 = .ok (.getfield 132, 3) := by decide +kernel
theorem dX11_readsWord_45 : decode cX11_readsWord 45 = .ok (.invokevirtual 135, 3) := by decide +kernel
theorem dX11_readsWord_48 : decode cX11_readsWord 48 = .ok (.invokestatic 146, 3) := by decide +kernel
theorem dX11_readsWord_51 : decode cX11_readsWord 51 = .ok (.ifCond .eq 72, 3) := by decide +kernel
theorem dX11_readsWord_54 : decode cX11_readsWord 54 = .ok (.aload_n 0, 1) := by decide +kernel
theorem dX11_readsWord_55 : decode cX11_readsWord 55 = .ok (.getfield 143, 3) := by decide +kernel
theorem dX11_readsWord_58 : decode cX11_readsWord 58 = .ok (.bipush 8, 2) := by decide +kernel
theorem dX11_readsWord_60 : decode cX11_readsWord 60 = .ok (.if_icmp .ne 12, 3) := by decide +kernel
theorem dX11_readsWord_63 : decode cX11_readsWord 63 = .ok (.aload_n 0, 1) := by decide +kernel
theorem dX11_readsWord_64 : decode cX11_readsWord 64 = .ok (.iconst 1, 1) := by decide +kernel
theorem dX11_readsWord_65 : decode cX11_readsWord 65 = .ok (.aload_n 0, 1) := by decide +kernel
theorem dX11_readsWord_66 : decode cX11_readsWord 66 = .ok (.getfield 132, 3) := by decide +kernel
theorem dX11_readsWord_69 : decode cX11_readsWord 69 = .ok (.invokevirtual 150, 3) := by decide +kernel
theorem dX11_readsWord_72 : decode cX11_readsWord 72 = .ok (.aload_n 0, 1) := by decide +kernel
theorem dX11_readsWord_73 : decode cX11_readsWord 73 = .ok (.ldc2_w 158, 3) := by decide +kernel
theorem dX11_readsWord_76 : decode cX11_readsWord 76 = .ok (.aload_n 0, 1) := by decide +kernel
theorem dX11_readsWord_77 : decode cX11_readsWord 77 = .ok (.getfield 139, 3) := by decide +kernel
theorem dX11_readsWord_80 : decode cX11_readsWord 80 = .ok (.lmul, 1) := by decide +kernel
theorem dX11_readsWord_81 : decode cX11_readsWord 81 = .ok (.aload_n 0, 1) := by decide +kernel
theorem dX11_readsWord_82 : decode cX11_readsWord 82 = .ok (.aload_n 0, 1) := by decide +kernel
theorem dX11_readsWord_83 : decode cX11_readsWord 83 = .ok (.getfield 132, 3) := by decide +kernel
theorem dX11_readsWord_86 : decode cX11_readsWord 86 = .ok (.invokevirtual 135, 3) := by decide +kernel
theorem dX11_readsWord_89 : decode cX11_readsWord 89 = .ok (.i2l, 1) := by decide +kernel
theorem dX11_readsWord_90 : decode cX11_readsWord 90 = .ok (.ladd, 1) := by decide +kernel
theorem dX11_readsWord_91 : decode cX11_readsWord 91 = .ok (.ldc2_w 160, 3) := by decide +kernel
theorem dX11_readsWord_94 : decode cX11_readsWord 94 = .ok (.lsub, 1) := by decide +kernel
theorem dX11_readsWord_95 : decode cX11_readsWord 95 = .ok (.lconst 1, 1) := by decide +kernel
theorem dX11_readsWord_96 : decode cX11_readsWord 96 = .ok (.ladd, 1) := by decide +kernel
theorem dX11_readsWord_97 : decode cX11_readsWord 97 = .ok (.putfield 139, 3) := by decide +kernel
theorem dX11_readsWord_100 : decode cX11_readsWord 100 = .ok (.aload_n 0, 1) := by decide +kernel
theorem dX11_readsWord_101 : decode cX11_readsWord 101 = .ok (.dup, 1) := by decide +kernel
theorem dX11_readsWord_102 : decode cX11_readsWord 102 = .ok (.getfield 143, 3) := by decide +kernel
theorem dX11_readsWord_105 : decode cX11_readsWord 105 = .ok (.iconst 1, 1) := by decide +kernel
theorem dX11_readsWord_106 : decode cX11_readsWord 106 = .ok (.iadd, 1) := by decide +kernel
theorem dX11_readsWord_107 : decode cX11_readsWord 107 = .ok (.putfield 143, 3) := by decide +kernel
theorem dX11_readsWord_110 : decode cX11_readsWord 110 = .ok (.aload_n 0, 1) := by decide +kernel
theorem dX11_readsWord_111 : decode cX11_readsWord 111 = .ok (.dup, 1) := by decide +kernel
theorem dX11_readsWord_112 : decode cX11_readsWord 112 = .ok (.getfield 132, 3) := by decide +kernel
theorem dX11_readsWord_115 : decode cX11_readsWord 115 = .ok (.iconst 1, 1) := by decide +kernel
theorem dX11_readsWord_116 : decode cX11_readsWord 116 = .ok (.iadd, 1) := by decide +kernel
theorem dX11_readsWord_117 : decode cX11_readsWord 117 = .ok (.putfield 132, 3) := by decide +kernel
theorem dX11_readsWord_120 : decode cX11_readsWord 120 = .ok (.goto (-87), 3) := by decide +kernel
theorem dX11_readsWord_123 : decode cX11_readsWord 123 = .ok (.return_, 1) := by decide +kernel
theorem dX11_seek_0 : decode cX11_seek 0 = .ok (.iconst 0, 1) := by decide +kernel
theorem dX11_seek_1 : decode cX11_seek 1 = .ok (.istore_n 1, 1) := by decide +kernel
theorem dX11_seek_2 : decode cX11_seek 2 = .ok (.iload_n 1, 1) := by decide +kernel
theorem dX11_seek_3 : decode cX11_seek 3 = .ok (.aload_n 0, 1) := by decide +kernel
theorem dX11_seek_4 : decode cX11_seek 4 = .ok (.getfield 162, 3) := by decide +kernel
theorem dX11_seek_7 : decode cX11_seek 7 = .ok (.if_icmp .ge 25, 3) := by decide +kernel
theorem dX11_seek_10 : decode cX11_seek 10 = .ok (.aload_n 0, 1) := by decide +kernel
theorem dX11_seek_11 : decode cX11_seek 11 = .ok (.getfield 37, 3) := by decide +kernel
theorem dX11_seek_14 : decode cX11_seek 14 = .ok (.iload_n 1, 1) := by decide +kernel
theorem dX11_seek_15 : decode cX11_seek 15 = .ok (.laload, 1) := by decide +kernel
theorem dX11_seek_16 : decode cX11_seek 16 = .ok (.aload_n 0, 1) := by decide +kernel
theorem dX11_seek_17 : decode cX11_seek 17 = .ok (.getfield 139, 3) := by decide +kernel
theorem dX11_seek_20 : decode cX11_seek 20 = .ok (.lcmp, 1) := by decide +kernel
theorem dX11_seek_21 : decode cX11_seek 21 = .ok (.ifCond .ne 5, 3) := by decide +kernel
theorem dX11_seek_24 : decode cX11_seek 24 = .ok (.iload_n 1, 1) := by decide +kernel
theorem dX11_seek_25 : decode cX11_seek 25 = .ok (.ireturn, 1) := by decide +kernel
theorem dX11_seek_26 : decode cX11_seek 26 = .ok (.iinc 1 1, 3) := by decide +kernel
theorem dX11_seek_29 : decode cX11_seek 29 = .ok (.goto (-27), 3) := by decide +kernel
theorem dX11_seek_32 : decode cX11_seek 32 = .ok (.iconst (-1), 1) := by decide +kernel
theorem dX11_seek_33 : decode cX11_seek 33 = .ok (.ireturn, 1) := by decide +kernel
theorem dX11_readsNext_0 : decode cX11_readsNext 0 = .ok (.aload_n 0, 1) := by decide +kernel
theorem dX11_readsNext_1 : decode cX11_readsNext 1 = .ok (.getfield 132, 3) := by decide +kernel
theorem dX11_readsNext_4 : decode cX11_readsNext 4 = .ok (.istore_n 3, 1) := by decide +kernel
theorem dX11_readsNext_5 : decode cX11_readsNext 5 = .ok (.iload_n 2, 1) := by decide +kernel
theorem dX11_readsNext_6 : decode cX11_readsNext 6 = .ok (.sipush 150, 3) := by decide +kernel
theorem dX11_readsNext_9 : decode cX11_readsNext 9 = .ok (.if_icmp .ne 12, 3) := by decide +kernel
theorem dX11_readsNext_12 : decode cX11_readsNext 12 = .ok (.aload_n 0, 1) := by decide +kernel
theorem dX11_readsNext_13 : decode cX11_readsNext 13 = .ok (.iconst 2, 1) := by decide +kernel
theorem dX11_readsNext_14 : decode cX11_readsNext 14 = .ok (.aload_n 0, 1) := by decide +kernel
theorem dX11_readsNext_15 : decode cX11_readsNext 15 = .ok (.getfield 132, 3) := by decide +kernel
theorem dX11_readsNext_18 : decode cX11_readsNext 18 = .ok (.invokevirtual 150, 3) := by decide +kernel
theorem dX11_readsNext_21 : decode cX11_readsNext 21 = .ok (.aload_n 0, 1) := by decide +kernel
theorem dX11_readsNext_22 : decode cX11_readsNext 22 = .ok (.invokevirtual 154, 3) := by decide +kernel
theorem dX11_readsNext_25 : decode cX11_readsNext 25 = .ok (.ifCond .ne 4, 3) := by decide +kernel
theorem dX11_readsNext_28 : decode cX11_readsNext 28 = .ok (.return_, 1) := by decide +kernel
theorem dX11_readsNext_29 : decode cX11_readsNext 29 = .ok (.aload_n 0, 1) := by decide +kernel
theorem dX11_readsNext_30 : decode cX11_readsNext 30 = .ok (.invokevirtual 165, 3) := by decide +kernel
theorem dX11_readsNext_33 : decode cX11_readsNext 33 = .ok (.aload_n 0, 1) := by decide +kernel
theorem dX11_readsNext_34 : decode cX11_readsNext 34 = .ok (.invokevirtual 154, 3) := by decide +kernel
theorem dX11_readsNext_37 : decode cX11_readsNext 37 = .ok (.ifCond .ne 4, 3) := by decide +kernel
theorem dX11_readsNext_40 : decode cX11_readsNext 40 = .ok (.return_, 1) := by decide +kernel
theorem dX11_readsNext_41 : decode cX11_readsNext 41 = .ok (.aload_n 0, 1) := by decide +kernel
theorem dX11_readsNext_42 : decode cX11_readsNext 42 = .ok (.invokevirtual 168, 3) := by decide +kernel
theorem dX11_readsNext_45 : decode cX11_readsNext 45 = .ok (.istore 4, 2) := by decide +kernel
theorem dX11_readsNext_47 : decode cX11_readsNext 47 = .ok (.iload 4, 2) := by decide +kernel
theorem dX11_readsNext_49 : decode cX11_readsNext 49 = .ok (.iconst (-1), 1) := by decide +kernel
theorem dX11_readsNext_50 : decode cX11_readsNext 50 = .ok (.if_icmp .ne 19, 3) := by decide +kernel
theorem dX11_readsNext_53 : decode cX11_readsNext 53 = .ok (.aload_n 0, 1) := by decide +kernel
theorem dX11_readsNext_54 : decode cX11_readsNext 54 = .ok (.getfield 162, 3) := by decide +kernel
theorem dX11_readsNext_57 : decode cX11_readsNext 57 = .ok (.sipush 255, 3) := by decide +kernel
theorem dX11_readsNext_60 : decode cX11_readsNext 60 = .ok (.if_icmp .ne 9, 3) := by decide +kernel
theorem dX11_readsNext_63 : decode cX11_readsNext 63 = .ok (.aload_n 0, 1) := by decide +kernel
theorem dX11_readsNext_64 : decode cX11_readsNext 64 = .ok (.iconst 2, 1) := by decide +kernel
theorem dX11_readsNext_65 : decode cX11_readsNext 65 = .ok (.iload_n 3, 1) := by decide +kernel
theorem dX11_readsNext_66 : decode cX11_readsNext 66 = .ok (.invokevirtual 150, 3) := by decide +kernel
theorem dX11_readsNext_69 : decode cX11_readsNext 69 = .ok (.aload_n 0, 1) := by decide +kernel
theorem dX11_readsNext_70 : decode cX11_readsNext 70 = .ok (.invokevirtual 154, 3) := by decide +kernel
theorem dX11_readsNext_73 : decode cX11_readsNext 73 = .ok (.ifCond .ne 4, 3) := by decide +kernel
theorem dX11_readsNext_76 : decode cX11_readsNext 76 = .ok (.return_, 1) := by decide +kernel
theorem dX11_readsNext_77 : decode cX11_readsNext 77 = .ok (.iload 4, 2) := by decide +kernel
theorem dX11_readsNext_79 : decode cX11_readsNext 79 = .ok (.iconst (-1), 1) := by decide +kernel
theorem dX11_readsNext_80 : decode cX11_readsNext 80 = .ok (.if_icmp .ne 41, 3) := by decide +kernel
theorem dX11_readsNext_83 : decode cX11_readsNext 83 = .ok (.aload_n 0, 1) := by decide +kernel
theorem dX11_readsNext_84 : decode cX11_readsNext 84 = .ok (.getfield 162, 3) := by decide +kernel
theorem dX11_readsNext_87 : decode cX11_readsNext 87 = .ok (.istore 4, 2) := by decide +kernel
theorem dX11_readsNext_89 : decode cX11_readsNext 89 = .ok (.aload_n 0, 1) := by decide +kernel
theorem dX11_readsNext_90 : decode cX11_readsNext 90 = .ok (.getfield 37, 3) := by decide +kernel
theorem dX11_readsNext_93 : decode cX11_readsNext 93 = .ok (.iload 4, 2) := by decide +kernel
theorem dX11_readsNext_95 : decode cX11_readsNext 95 = .ok (.aload_n 0, 1) := by decide +kernel
theorem dX11_readsNext_96 : decode cX11_readsNext 96 = .ok (.getfield 139, 3) := by decide +kernel
theorem dX11_readsNext_99 : decode cX11_readsNext 99 = .ok (.lastore, 1) := by decide +kernel
theorem dX11_readsNext_100 : decode cX11_readsNext 100 = .ok (.aload_n 0, 1) := by decide +kernel
theorem dX11_readsNext_101 : decode cX11_readsNext 101 = .ok (.getfield 34, 3) := by decide +kernel
theorem dX11_readsNext_104 : decode cX11_readsNext 104 = .ok (.iload 4, 2) := by decide +kernel
theorem dX11_readsNext_106 : decode cX11_readsNext 106 = .ok (.aload_n 0, 1) := by decide +kernel
theorem dX11_readsNext_107 : decode cX11_readsNext 107 = .ok (.getfield 143, 3) := by decide +kernel
theorem dX11_readsNext_110 : decode cX11_readsNext 110 = .ok (.iastore, 1) := by decide +kernel
theorem dX11_readsNext_111 : decode cX11_readsNext 111 = .ok (.aload_n 0, 1) := by decide +kernel
theorem dX11_readsNext_112 : decode cX11_readsNext 112 = .ok (.dup, 1) := by decide +kernel
theorem dX11_readsNext_113 : decode cX11_readsNext 113 = .ok (.getfield 162, 3) := by decide +kernel
theorem dX11_readsNext_116 : decode cX11_readsNext 116 = .ok (.iconst 1, 1) := by decide +kernel
theorem dX11_readsNext_117 : decode cX11_readsNext 117 = .ok (.iadd, 1) := by decide +kernel
theorem dX11_readsNext_118 : decode cX11_readsNext 118 = .ok (.putfield 162, 3) := by decide +kernel
theorem dX11_readsNext_121 : decode cX11_readsNext 121 = .ok (.aload_n 0, 1) := by decide +kernel
theorem dX11_readsNext_122 : decode cX11_readsNext 122 = .ok (.getfield 25, 3) := by decide +kernel
theorem dX11_readsNext_125 : decode cX11_readsNext 125 = .ok (.iload_n 1, 1) := by decide +kernel
theorem dX11_readsNext_126 : decode cX11_readsNext 126 = .ok (.aaload, 1) := by decide +kernel
theorem dX11_readsNext_127 : decode cX11_readsNext 127 = .ok (.iload_n 2, 1) := by decide +kernel
theorem dX11_readsNext_128 : decode cX11_readsNext 128 = .ok (.iload 4, 2) := by decide +kernel
theorem dX11_readsNext_130 : decode cX11_readsNext 130 = .ok (.iastore, 1) := by decide +kernel
theorem dX11_readsNext_131 : decode cX11_readsNext 131 = .ok (.return_, 1) := by decide +kernel
theorem dX11_add_0 : decode cX11_add 0 = .ok (.aload_n 0, 1) := by decide +kernel
theorem dX11_add_1 : decode cX11_add 1 = .ok (.iconst 0, 1) := by decide +kernel
theorem dX11_add_2 : decode cX11_add 2 = .ok (.putfield 117, 3) := by decide +kernel
theorem dX11_add_5 : decode cX11_add 5 = .ok (.aload_n 0, 1) := by decide +kernel
theorem dX11_add_6 : decode cX11_add 6 = .ok (.iload_n 1, 1) := by decide +kernel
theorem dX11_add_7 : decode cX11_add 7 = .ok (.iconst 0, 1) := by decide +kernel
theorem dX11_add_8 : decode cX11_add 8 = .ok (.aload_n 0, 1) := by decide +kernel
theorem dX11_add_9 : decode cX11_add 9 = .ok (.getfield 120, 3) := by decide +kernel
theorem dX11_add_12 : decode cX11_add 12 = .ok (.invokestatic 172, 3) := by decide +kernel
theorem dX11_add_15 : decode cX11_add 15 = .ok (.ifCond .eq 12, 3) := by decide +kernel
theorem dX11_add_18 : decode cX11_add 18 = .ok (.aload_n 0, 1) := by decide +kernel
theorem dX11_add_19 : decode cX11_add 19 = .ok (.getfield 176, 3) := by decide +kernel
theorem dX11_add_22 : decode cX11_add 22 = .ok (.bipush 64, 2) := by decide +kernel
theorem dX11_add_24 : decode cX11_add 24 = .ok (.if_icmp .ne 7, 3) := by decide +kernel
theorem dX11_add_27 : decode cX11_add 27 = .ok (.iconst 1, 1) := by decide +kernel
theorem dX11_add_28 : decode cX11_add 28 = .ok (.goto 4, 3) := by decide +kernel
theorem dX11_add_31 : decode cX11_add 31 = .ok (.iconst 0, 1) := by decide +kernel
theorem dX11_add_32 : decode cX11_add 32 = .ok (.iconst 1, 1) := by decide +kernel
theorem dX11_add_33 : decode cX11_add 33 = .ok (.iconst 1, 1) := by decide +kernel
theorem dX11_add_34 : decode cX11_add 34 = .ok (.invokevirtual 179, 3) := by decide +kernel
theorem dX11_add_37 : decode cX11_add 37 = .ok (.ifCond .eq 5, 3) := by decide +kernel
theorem dX11_add_40 : decode cX11_add 40 = .ok (.iconst 0, 1) := by decide +kernel
theorem dX11_add_41 : decode cX11_add 41 = .ok (.ireturn, 1) := by decide +kernel
theorem dX11_add_42 : decode cX11_add 42 = .ok (.aload_n 0, 1) := by decide +kernel
theorem dX11_add_43 : decode cX11_add 43 = .ok (.iload_n 1, 1) := by decide +kernel
theorem dX11_add_44 : decode cX11_add 44 = .ok (.invokevirtual 183, 3) := by decide +kernel
theorem dX11_add_47 : decode cX11_add 47 = .ok (.aload_n 0, 1) := by decide +kernel
theorem dX11_add_48 : decode cX11_add 48 = .ok (.getfield 162, 3) := by decide +kernel
theorem dX11_add_51 : decode cX11_add 51 = .ok (.istore_n 2, 1) := by decide +kernel
theorem dX11_add_52 : decode cX11_add 52 = .ok (.iconst 0, 1) := by decide +kernel
theorem dX11_add_53 : decode cX11_add 53 = .ok (.istore_n 3, 1) := by decide +kernel
theorem dX11_add_54 : decode cX11_add 54 = .ok (.aload_n 0, 1) := by decide +kernel
theorem dX11_add_55 : decode cX11_add 55 = .ok (.invokevirtual 154, 3) := by decide +kernel
theorem dX11_add_58 : decode cX11_add 58 = .ok (.ifCond .eq 52, 3) := by decide +kernel
theorem dX11_add_61 : decode cX11_add 61 = .ok (.aload_n 0, 1) := by decide +kernel
theorem dX11_add_62 : decode cX11_add 62 = .ok (.invokevirtual 187, 3) := by decide +kernel
theorem dX11_add_65 : decode cX11_add 65 = .ok (.iconst (-1), 1) := by decide +kernel
theorem dX11_add_66 : decode cX11_add 66 = .ok (.if_icmp .eq 44, 3) := by decide +kernel
theorem dX11_add_69 : decode cX11_add 69 = .ok (.aload_n 0, 1) := by decide +kernel
theorem dX11_add_70 : decode cX11_add 70 = .ok (.aload_n 0, 1) := by decide +kernel
theorem dX11_add_71 : decode cX11_add 71 = .ok (.getfield 132, 3) := by decide +kernel
theorem dX11_add_74 : decode cX11_add 74 = .ok (.invokevirtual 135, 3) := by decide +kernel
theorem dX11_add_77 : decode cX11_add 77 = .ok (.invokestatic 146, 3) := by decide +kernel
theorem dX11_add_80 : decode cX11_add 80 = .ok (.ifCond .ne 15, 3) := by decide +kernel
theorem dX11_add_83 : decode cX11_add 83 = .ok (.aload_n 0, 1) := by decide +kernel
theorem dX11_add_84 : decode cX11_add 84 = .ok (.iconst 1, 1) := by decide +kernel
theorem dX11_add_85 : decode cX11_add 85 = .ok (.aload_n 0, 1) := by decide +kernel
theorem dX11_add_86 : decode cX11_add 86 = .ok (.getfield 132, 3) := by decide +kernel
theorem dX11_add_89 : decode cX11_add 89 = .ok (.invokevirtual 150, 3) := by decide +kernel
theorem dX11_add_92 : decode cX11_add 92 = .ok (.goto 12, 3) := by decide +kernel
theorem dX11_add_95 : decode cX11_add 95 = .ok (.aload_n 0, 1) := by decide +kernel
theorem dX11_add_96 : decode cX11_add 96 = .ok (.aload_n 0, 1) := by decide +kernel
theorem dX11_add_97 : decode cX11_add 97 = .ok (.getfield 176, 3) := by decide +kernel
theorem dX11_add_100 : decode cX11_add 100 = .ok (.iload_n 3, 1) := by decide +kernel
theorem dX11_add_101 : decode cX11_add 101 = .ok (.invokevirtual 190, 3) := by decide +kernel
theorem dX11_add_104 : decode cX11_add 104 = .ok (.iinc 3 1, 3) := by decide +kernel
theorem dX11_add_107 : decode cX11_add 107 = .ok (.goto (-53), 3) := by decide +kernel
theorem dX11_add_110 : decode cX11_add 110 = .ok (.iload_n 3, 1) := by decide +kernel
theorem dX11_add_111 : decode cX11_add 111 = .ok (.ifCond .ne 12, 3) := by decide +kernel
theorem dX11_add_114 : decode cX11_add 114 = .ok (.aload_n 0, 1) := by decide +kernel
theorem dX11_add_115 : decode cX11_add 115 = .ok (.iconst 1, 1) := by decide +kernel
theorem dX11_add_116 : decode cX11_add 116 = .ok (.aload_n 0, 1) := by decide +kernel
theorem dX11_add_117 : decode cX11_add 117 = .ok (.getfield 132, 3) := by decide +kernel
theorem dX11_add_120 : decode cX11_add 120 = .ok (.invokevirtual 150, 3) := by decide +kernel
theorem dX11_add_123 : decode cX11_add 123 = .ok (.aload_n 0, 1) := by decide +kernel
theorem dX11_add_124 : decode cX11_add 124 = .ok (.aload_n 0, 1) := by decide +kernel
theorem dX11_add_125 : decode cX11_add 125 = .ok (.getfield 129, 3) := by decide +kernel
theorem dX11_add_128 : decode cX11_add 128 = .ok (.putfield 13, 3) := by decide +kernel
theorem dX11_add_131 : decode cX11_add 131 = .ok (.aload_n 0, 1) := by decide +kernel
theorem dX11_add_132 : decode cX11_add 132 = .ok (.invokevirtual 154, 3) := by decide +kernel
theorem dX11_add_135 : decode cX11_add 135 = .ok (.ifCond .ne 16, 3) := by decide +kernel
theorem dX11_add_138 : decode cX11_add 138 = .ok (.aload_n 0, 1) := by decide +kernel
theorem dX11_add_139 : decode cX11_add 139 = .ok (.iload_n 2, 1) := by decide +kernel
theorem dX11_add_140 : decode cX11_add 140 = .ok (.putfield 162, 3) := by decide +kernel
theorem dX11_add_143 : decode cX11_add 143 = .ok (.aload_n 0, 1) := by decide +kernel
theorem dX11_add_144 : decode cX11_add 144 = .ok (.getfield 126, 3) := by decide +kernel
theorem dX11_add_147 : decode cX11_add 147 = .ok (.bipush 10, 2) := by decide +kernel
theorem dX11_add_149 : decode cX11_add 149 = .ok (.isub, 1) := by decide +kernel
theorem dX11_add_150 : decode cX11_add 150 = .ok (.ireturn, 1) := by decide +kernel
theorem dX11_add_151 : decode cX11_add 151 = .ok (.aload_n 0, 1) := by decide +kernel
theorem dX11_add_152 : decode cX11_add 152 = .ok (.getfield 176, 3) := by decide +kernel
theorem dX11_add_155 : decode cX11_add 155 = .ok (.istore 4, 2) := by decide +kernel
theorem dX11_add_157 : decode cX11_add 157 = .ok (.aload_n 0, 1) := by decide +kernel
theorem dX11_add_158 : decode cX11_add 158 = .ok (.getfield 28, 3) := by decide +kernel
theorem dX11_add_161 : decode cX11_add 161 = .ok (.iload 4, 2) := by decide +kernel
theorem dX11_add_163 : decode cX11_add 163 = .ok (.iload_n 3, 1) := by decide +kernel
theorem dX11_add_164 : decode cX11_add 164 = .ok (.iastore, 1) := by decide +kernel
theorem dX11_add_165 : decode cX11_add 165 = .ok (.aload_n 0, 1) := by decide +kernel
theorem dX11_add_166 : decode cX11_add 166 = .ok (.getfield 31, 3) := by decide +kernel
theorem dX11_add_169 : decode cX11_add 169 = .ok (.iload 4, 2) := by decide +kernel
theorem dX11_add_171 : decode cX11_add 171 = .ok (.iconst 1, 1) := by decide +kernel
theorem dX11_add_172 : decode cX11_add 172 = .ok (.iastore, 1) := by decide +kernel
theorem dX11_add_173 : decode cX11_add 173 = .ok (.iconst 0, 1) := by decide +kernel
theorem dX11_add_174 : decode cX11_add 174 = .ok (.istore 5, 2) := by decide +kernel
theorem dX11_add_176 : decode cX11_add 176 = .ok (.iload 5, 2) := by decide +kernel
theorem dX11_add_178 : decode cX11_add 178 = .ok (.aload_n 0, 1) := by decide +kernel
theorem dX11_add_179 : decode cX11_add 179 = .ok (.getfield 162, 3) := by decide +kernel
theorem dX11_add_182 : decode cX11_add 182 = .ok (.if_icmp .ge 20, 3) := by decide +kernel
theorem dX11_add_185 : decode cX11_add 185 = .ok (.aload_n 0, 1) := by decide +kernel
theorem dX11_add_186 : decode cX11_add 186 = .ok (.getfield 41, 3) := by decide +kernel
theorem dX11_add_189 : decode cX11_add 189 = .ok (.iload 5, 2) := by decide +kernel
theorem dX11_add_191 : decode cX11_add 191 = .ok (.aaload, 1) := by decide +kernel
theorem dX11_add_192 : decode cX11_add 192 = .ok (.iload 4, 2) := by decide +kernel
theorem dX11_add_194 : decode cX11_add 194 = .ok (.iconst 0, 1) := by decide +kernel
theorem dX11_add_195 : decode cX11_add 195 = .ok (.iastore, 1) := by decide +kernel
theorem dX11_add_196 : decode cX11_add 196 = .ok (.iinc 5 1, 3) := by decide +kernel
theorem dX11_add_199 : decode cX11_add 199 = .ok (.goto (-23), 3) := by decide +kernel
theorem dX11_add_202 : decode cX11_add 202 = .ok (.iconst 0, 1) := by decide +kernel
theorem dX11_add_203 : decode cX11_add 203 = .ok (.istore 5, 2) := by decide +kernel
theorem dX11_add_205 : decode cX11_add 205 = .ok (.iload 5, 2) := by decide +kernel
theorem dX11_add_207 : decode cX11_add 207 = .ok (.iload_n 3, 1) := by decide +kernel
theorem dX11_add_208 : decode cX11_add 208 = .ok (.if_icmp .ge 31, 3) := by decide +kernel
theorem dX11_add_211 : decode cX11_add 211 = .ok (.aload_n 0, 1) := by decide +kernel
theorem dX11_add_212 : decode cX11_add 212 = .ok (.getfield 41, 3) := by decide +kernel
theorem dX11_add_215 : decode cX11_add 215 = .ok (.aload_n 0, 1) := by decide +kernel
theorem dX11_add_216 : decode cX11_add 216 = .ok (.getfield 25, 3) := by decide +kernel
theorem dX11_add_219 : decode cX11_add 219 = .ok (.iload 4, 2) := by decide +kernel
theorem dX11_add_221 : decode cX11_add 221 = .ok (.aaload, 1) := by decide +kernel
theorem dX11_add_222 : decode cX11_add 222 = .ok (.iload 5, 2) := by decide +kernel
theorem dX11_add_224 : decode cX11_add 224 = .ok (.iaload, 1) := by decide +kernel
theorem dX11_add_225 : decode cX11_add 225 = .ok (.aaload, 1) := by decide +kernel
theorem dX11_add_226 : decode cX11_add 226 = .ok (.iload 4, 2) := by decide +kernel
theorem dX11_add_228 : decode cX11_add 228 = .ok (.dup2, 1) := by decide +kernel
theorem dX11_add_229 : decode cX11_add 229 = .ok (.iaload, 1) := by decide +kernel
theorem dX11_add_230 : decode cX11_add 230 = .ok (.iconst 1, 1) := by decide +kernel
theorem dX11_add_231 : decode cX11_add 231 = .ok (.iadd, 1) := by decide +kernel
theorem dX11_add_232 : decode cX11_add 232 = .ok (.iastore, 1) := by decide +kernel
theorem dX11_add_233 : decode cX11_add 233 = .ok (.iinc 5 1, 3) := by decide +kernel
theorem dX11_add_236 : decode cX11_add 236 = .ok (.goto (-31), 3) := by decide +kernel
theorem dX11_add_239 : decode cX11_add 239 = .ok (.aload_n 0, 1) := by decide +kernel
theorem dX11_add_240 : decode cX11_add 240 = .ok (.dup, 1) := by decide +kernel
theorem dX11_add_241 : decode cX11_add 241 = .ok (.getfield 176, 3) := by decide +kernel
theorem dX11_add_244 : decode cX11_add 244 = .ok (.iconst 1, 1) := by decide +kernel
theorem dX11_add_245 : decode cX11_add 245 = .ok (.iadd, 1) := by decide +kernel
theorem dX11_add_246 : decode cX11_add 246 = .ok (.putfield 176, 3) := by decide +kernel
theorem dX11_add_249 : decode cX11_add 249 = .ok (.iload 4, 2) := by decide +kernel
theorem dX11_add_251 : decode cX11_add 251 = .ok (.ireturn, 1) := by decide +kernel
theorem dX11_find_0 : decode cX11_find 0 = .ok (.aload_n 0, 1) := by decide +kernel
theorem dX11_find_1 : decode cX11_find 1 = .ok (.iconst 0, 1) := by decide +kernel
theorem dX11_find_2 : decode cX11_find 2 = .ok (.putfield 117, 3) := by decide +kernel
theorem dX11_find_5 : decode cX11_find 5 = .ok (.aload_n 0, 1) := by decide +kernel
theorem dX11_find_6 : decode cX11_find 6 = .ok (.iload_n 1, 1) := by decide +kernel
theorem dX11_find_7 : decode cX11_find 7 = .ok (.iconst 0, 1) := by decide +kernel
theorem dX11_find_8 : decode cX11_find 8 = .ok (.aload_n 0, 1) := by decide +kernel
theorem dX11_find_9 : decode cX11_find 9 = .ok (.getfield 120, 3) := by decide +kernel
theorem dX11_find_12 : decode cX11_find 12 = .ok (.invokestatic 172, 3) := by decide +kernel
theorem dX11_find_15 : decode cX11_find 15 = .ok (.ifCond .ne 7, 3) := by decide +kernel
theorem dX11_find_18 : decode cX11_find 18 = .ok (.iconst 1, 1) := by decide +kernel
theorem dX11_find_19 : decode cX11_find 19 = .ok (.goto 4, 3) := by decide +kernel
theorem dX11_find_22 : decode cX11_find 22 = .ok (.iconst 0, 1) := by decide +kernel
theorem dX11_find_23 : decode cX11_find 23 = .ok (.iconst 1, 1) := by decide +kernel
theorem dX11_find_24 : decode cX11_find 24 = .ok (.iconst 1, 1) := by decide +kernel
theorem dX11_find_25 : decode cX11_find 25 = .ok (.invokevirtual 179, 3) := by decide +kernel
theorem dX11_find_28 : decode cX11_find 28 = .ok (.ifCond .eq 5, 3) := by decide +kernel
theorem dX11_find_31 : decode cX11_find 31 = .ok (.iconst 0, 1) := by decide +kernel
theorem dX11_find_32 : decode cX11_find 32 = .ok (.ireturn, 1) := by decide +kernel
theorem dX11_find_33 : decode cX11_find 33 = .ok (.aload_n 0, 1) := by decide +kernel
theorem dX11_find_34 : decode cX11_find 34 = .ok (.getfield 126, 3) := by decide +kernel
theorem dX11_find_37 : decode cX11_find 37 = .ok (.istore_n 2, 1) := by decide +kernel
theorem dX11_find_38 : decode cX11_find 38 = .ok (.aload_n 0, 1) := by decide +kernel
theorem dX11_find_39 : decode cX11_find 39 = .ok (.getfield 129, 3) := by decide +kernel
theorem dX11_find_42 : decode cX11_find 42 = .ok (.istore_n 3, 1) := by decide +kernel
theorem dX11_find_43 : decode cX11_find 43 = .ok (.aload_n 0, 1) := by decide +kernel
theorem dX11_find_44 : decode cX11_find 44 = .ok (.iload_n 1, 1) := by decide +kernel
theorem dX11_find_45 : decode cX11_find 45 = .ok (.invokevirtual 183, 3) := by decide +kernel
theorem dX11_find_48 : decode cX11_find 48 = .ok (.aload_n 0, 1) := by decide +kernel
theorem dX11_find_49 : decode cX11_find 49 = .ok (.invokevirtual 165, 3) := by decide +kernel
theorem dX11_find_52 : decode cX11_find 52 = .ok (.aload_n 0, 1) := by decide +kernel
theorem dX11_find_53 : decode cX11_find 53 = .ok (.invokevirtual 154, 3) := by decide +kernel
theorem dX11_find_56 : decode cX11_find 56 = .ok (.ifCond .eq 18, 3) := by decide +kernel
theorem dX11_find_59 : decode cX11_find 59 = .ok (.aload_n 0, 1) := by decide +kernel
theorem dX11_find_60 : decode cX11_find 60 = .ok (.getfield 132, 3) := by decide +kernel
theorem dX11_find_63 : decode cX11_find 63 = .ok (.aload_n 0, 1) := by decide +kernel
theorem dX11_find_64 : decode cX11_find 64 = .ok (.getfield 123, 3) := by decide +kernel
theorem dX11_find_67 : decode cX11_find 67 = .ok (.if_icmp .ne 7, 3) := by decide +kernel
theorem dX11_find_70 : decode cX11_find 70 = .ok (.iconst 1, 1) := by decide +kernel
theorem dX11_find_71 : decode cX11_find 71 = .ok (.goto 4, 3) := by decide +kernel
theorem dX11_find_74 : decode cX11_find 74 = .ok (.iconst 0, 1) := by decide +kernel
theorem dX11_find_75 : decode cX11_find 75 = .ok (.istore 4, 2) := by decide +kernel
theorem dX11_find_77 : decode cX11_find 77 = .ok (.aload_n 0, 1) := by decide +kernel
theorem dX11_find_78 : decode cX11_find 78 = .ok (.iload_n 2, 1) := by decide +kernel
theorem dX11_find_79 : decode cX11_find 79 = .ok (.putfield 126, 3) := by decide +kernel
theorem dX11_find_82 : decode cX11_find 82 = .ok (.aload_n 0, 1) := by decide +kernel
theorem dX11_find_83 : decode cX11_find 83 = .ok (.iload_n 3, 1) := by decide +kernel
theorem dX11_find_84 : decode cX11_find 84 = .ok (.putfield 129, 3) := by decide +kernel
theorem dX11_find_87 : decode cX11_find 87 = .ok (.iload 4, 2) := by decide +kernel
theorem dX11_find_89 : decode cX11_find 89 = .ok (.ifCond .eq 10, 3) := by decide +kernel
theorem dX11_find_92 : decode cX11_find 92 = .ok (.aload_n 0, 1) := by decide +kernel
theorem dX11_find_93 : decode cX11_find 93 = .ok (.invokevirtual 168, 3) := by decide +kernel
theorem dX11_find_96 : decode cX11_find 96 = .ok (.goto 4, 3) := by decide +kernel
theorem dX11_find_99 : decode cX11_find 99 = .ok (.iconst (-1), 1) := by decide +kernel
theorem dX11_find_100 : decode cX11_find 100 = .ok (.ireturn, 1) := by decide +kernel
theorem dX11_fault_0 : decode cX11_fault 0 = .ok (.aload_n 0, 1) := by decide +kernel
theorem dX11_fault_1 : decode cX11_fault 1 = .ok (.iconst 0, 1) := by decide +kernel
theorem dX11_fault_2 : decode cX11_fault 2 = .ok (.putfield 117, 3) := by decide +kernel
theorem dX11_fault_5 : decode cX11_fault 5 = .ok (.aload_n 0, 1) := by decide +kernel
theorem dX11_fault_6 : decode cX11_fault 6 = .ok (.getfield 13, 3) := by decide +kernel
theorem dX11_fault_9 : decode cX11_fault 9 = .ok (.ireturn, 1) := by decide +kernel
theorem dX11_readsAsked_0 : decode cX11_readsAsked 0 = .ok (.aload_n 0, 1) := by decide +kernel
theorem dX11_readsAsked_1 : decode cX11_readsAsked 1 = .ok (.invokevirtual 165, 3) := by decide +kernel
theorem dX11_readsAsked_4 : decode cX11_readsAsked 4 = .ok (.aload_n 0, 1) := by decide +kernel
theorem dX11_readsAsked_5 : decode cX11_readsAsked 5 = .ok (.invokevirtual 154, 3) := by decide +kernel
theorem dX11_readsAsked_8 : decode cX11_readsAsked 8 = .ok (.ifCond .ne 4, 3) := by decide +kernel
theorem dX11_readsAsked_11 : decode cX11_readsAsked 11 = .ok (.return_, 1) := by decide +kernel
theorem dX11_readsAsked_12 : decode cX11_readsAsked 12 = .ok (.aload_n 0, 1) := by decide +kernel
theorem dX11_readsAsked_13 : decode cX11_readsAsked 13 = .ok (.getfield 62, 3) := by decide +kernel
theorem dX11_readsAsked_16 : decode cX11_readsAsked 16 = .ok (.aload_n 0, 1) := by decide +kernel
theorem dX11_readsAsked_17 : decode cX11_readsAsked 17 = .ok (.getfield 193, 3) := by decide +kernel
theorem dX11_readsAsked_20 : decode cX11_readsAsked 20 = .ok (.aaload, 1) := by decide +kernel
theorem dX11_readsAsked_21 : decode cX11_readsAsked 21 = .ok (.astore_n 3, 1) := by decide +kernel
theorem dX11_readsAsked_22 : decode cX11_readsAsked 22 = .ok (.aload_n 3, 1) := by decide +kernel
theorem dX11_readsAsked_23 : decode cX11_readsAsked 23 = .ok (.iconst 0, 1) := by decide +kernel
theorem dX11_readsAsked_24 : decode cX11_readsAsked 24 = .ok (.aload_n 0, 1) := by decide +kernel
theorem dX11_readsAsked_25 : decode cX11_readsAsked 25 = .ok (.invokevirtual 168, 3) := by decide +kernel
theorem dX11_readsAsked_28 : decode cX11_readsAsked 28 = .ok (.iastore, 1) := by decide +kernel
theorem dX11_readsAsked_29 : decode cX11_readsAsked 29 = .ok (.aload_n 3, 1) := by decide +kernel
theorem dX11_readsAsked_30 : decode cX11_readsAsked 30 = .ok (.iconst 1, 1) := by decide +kernel
theorem dX11_readsAsked_31 : decode cX11_readsAsked 31 = .ok (.iconst 1, 1) := by decide +kernel
theorem dX11_readsAsked_32 : decode cX11_readsAsked 32 = .ok (.iastore, 1) := by decide +kernel
theorem dX11_readsAsked_33 : decode cX11_readsAsked 33 = .ok (.aload_n 3, 1) := by decide +kernel
theorem dX11_readsAsked_34 : decode cX11_readsAsked 34 = .ok (.iconst 2, 1) := by decide +kernel
theorem dX11_readsAsked_35 : decode cX11_readsAsked 35 = .ok (.iload_n 1, 1) := by decide +kernel
theorem dX11_readsAsked_36 : decode cX11_readsAsked 36 = .ok (.iastore, 1) := by decide +kernel
theorem dX11_readsAsked_37 : decode cX11_readsAsked 37 = .ok (.aload_n 3, 1) := by decide +kernel
theorem dX11_readsAsked_38 : decode cX11_readsAsked 38 = .ok (.iconst 3, 1) := by decide +kernel
theorem dX11_readsAsked_39 : decode cX11_readsAsked 39 = .ok (.iload_n 2, 1) := by decide +kernel
theorem dX11_readsAsked_40 : decode cX11_readsAsked 40 = .ok (.iastore, 1) := by decide +kernel
theorem dX11_readsAsked_41 : decode cX11_readsAsked 41 = .ok (.aload_n 0, 1) := by decide +kernel
theorem dX11_readsAsked_42 : decode cX11_readsAsked 42 = .ok (.dup, 1) := by decide +kernel
theorem dX11_readsAsked_43 : decode cX11_readsAsked 43 = .ok (.getfield 193, 3) := by decide +kernel
theorem dX11_readsAsked_46 : decode cX11_readsAsked 46 = .ok (.iconst 1, 1) := by decide +kernel
theorem dX11_readsAsked_47 : decode cX11_readsAsked 47 = .ok (.iadd, 1) := by decide +kernel
theorem dX11_readsAsked_48 : decode cX11_readsAsked 48 = .ok (.putfield 193, 3) := by decide +kernel
theorem dX11_readsAsked_51 : decode cX11_readsAsked 51 = .ok (.return_, 1) := by decide +kernel
theorem dX11_digit_0 : decode cX11_digit 0 = .ok (.aload_n 0, 1) := by decide +kernel
theorem dX11_digit_1 : decode cX11_digit 1 = .ok (.aload_n 0, 1) := by decide +kernel
theorem dX11_digit_2 : decode cX11_digit 2 = .ok (.getfield 132, 3) := by decide +kernel
theorem dX11_digit_5 : decode cX11_digit 5 = .ok (.invokevirtual 135, 3) := by decide +kernel
theorem dX11_digit_8 : decode cX11_digit 8 = .ok (.istore_n 1, 1) := by decide +kernel
theorem dX11_digit_9 : decode cX11_digit 9 = .ok (.iload_n 1, 1) := by decide +kernel
theorem dX11_digit_10 : decode cX11_digit 10 = .ok (.bipush 49, 2) := by decide +kernel
theorem dX11_digit_12 : decode cX11_digit 12 = .ok (.if_icmp .lt 9, 3) := by decide +kernel
theorem dX11_digit_15 : decode cX11_digit 15 = .ok (.iload_n 1, 1) := by decide +kernel
theorem dX11_digit_16 : decode cX11_digit 16 = .ok (.bipush 57, 2) := by decide +kernel
theorem dX11_digit_18 : decode cX11_digit 18 = .ok (.if_icmp .le 12, 3) := by decide +kernel
theorem dX11_digit_21 : decode cX11_digit 21 = .ok (.aload_n 0, 1) := by decide +kernel
theorem dX11_digit_22 : decode cX11_digit 22 = .ok (.iconst 1, 1) := by decide +kernel
theorem dX11_digit_23 : decode cX11_digit 23 = .ok (.aload_n 0, 1) := by decide +kernel
theorem dX11_digit_24 : decode cX11_digit 24 = .ok (.getfield 132, 3) := by decide +kernel
theorem dX11_digit_27 : decode cX11_digit 27 = .ok (.invokevirtual 150, 3) := by decide +kernel
theorem dX11_digit_30 : decode cX11_digit 30 = .ok (.aload_n 0, 1) := by decide +kernel
theorem dX11_digit_31 : decode cX11_digit 31 = .ok (.invokevirtual 154, 3) := by decide +kernel
theorem dX11_digit_34 : decode cX11_digit 34 = .ok (.ifCond .ne 5, 3) := by decide +kernel
theorem dX11_digit_37 : decode cX11_digit 37 = .ok (.iconst 0, 1) := by decide +kernel
theorem dX11_digit_38 : decode cX11_digit 38 = .ok (.ireturn, 1) := by decide +kernel
theorem dX11_digit_39 : decode cX11_digit 39 = .ok (.aload_n 0, 1) := by decide +kernel
theorem dX11_digit_40 : decode cX11_digit 40 = .ok (.dup, 1) := by decide +kernel
theorem dX11_digit_41 : decode cX11_digit 41 = .ok (.getfield 132, 3) := by decide +kernel
theorem dX11_digit_44 : decode cX11_digit 44 = .ok (.iconst 1, 1) := by decide +kernel
theorem dX11_digit_45 : decode cX11_digit 45 = .ok (.iadd, 1) := by decide +kernel
theorem dX11_digit_46 : decode cX11_digit 46 = .ok (.putfield 132, 3) := by decide +kernel
theorem dX11_digit_49 : decode cX11_digit 49 = .ok (.iload_n 1, 1) := by decide +kernel
theorem dX11_digit_50 : decode cX11_digit 50 = .ok (.bipush 48, 2) := by decide +kernel
theorem dX11_digit_52 : decode cX11_digit 52 = .ok (.isub, 1) := by decide +kernel
theorem dX11_digit_53 : decode cX11_digit 53 = .ok (.ireturn, 1) := by decide +kernel
theorem dX11_readsPhrase_0 : decode cX11_readsPhrase 0 = .ok (.aload_n 0, 1) := by decide +kernel
theorem dX11_readsPhrase_1 : decode cX11_readsPhrase 1 = .ok (.dup, 1) := by decide +kernel
theorem dX11_readsPhrase_2 : decode cX11_readsPhrase 2 = .ok (.getfield 132, 3) := by decide +kernel
theorem dX11_readsPhrase_5 : decode cX11_readsPhrase 5 = .ok (.iconst 1, 1) := by decide +kernel
theorem dX11_readsPhrase_6 : decode cX11_readsPhrase 6 = .ok (.iadd, 1) := by decide +kernel
theorem dX11_readsPhrase_7 : decode cX11_readsPhrase 7 = .ok (.putfield 132, 3) := by decide +kernel
theorem dX11_readsPhrase_10 : decode cX11_readsPhrase 10 = .ok (.iconst 0, 1) := by decide +kernel
theorem dX11_readsPhrase_11 : decode cX11_readsPhrase 11 = .ok (.istore_n 1, 1) := by decide +kernel
theorem dX11_readsPhrase_12 : decode cX11_readsPhrase 12 = .ok (.aload_n 0, 1) := by decide +kernel
theorem dX11_readsPhrase_13 : decode cX11_readsPhrase 13 = .ok (.invokevirtual 154, 3) := by decide +kernel
theorem dX11_readsPhrase_16 : decode cX11_readsPhrase 16 = .ok (.ifCond .eq 65, 3) := by decide +kernel
theorem dX11_readsPhrase_19 : decode cX11_readsPhrase 19 = .ok (.aload_n 0, 1) := by decide +kernel
theorem dX11_readsPhrase_20 : decode cX11_readsPhrase 20 = .ok (.invokevirtual 187, 3) := by decide +kernel
theorem dX11_readsPhrase_23 : decode cX11_readsPhrase 23 = .ok (.istore_n 2, 1) := by decide +kernel
theorem dX11_readsPhrase_24 : decode cX11_readsPhrase 24 = .ok (.iload_n 2, 1) := by decide +kernel
theorem dX11_readsPhrase_25 : decode cX11_readsPhrase 25 = .ok (.bipush 34, 2) := by decide +kernel
theorem dX11_readsPhrase_27 : decode cX11_readsPhrase 27 = .ok (.if_icmp .ne 11, 3) := by decide +kernel
theorem dX11_readsPhrase_30 : decode cX11_readsPhrase 30 = .ok (.iload_n 1, 1) := by decide +kernel
theorem dX11_readsPhrase_31 : decode cX11_readsPhrase 31 = .ok (.iconst 1, 1) := by decide +kernel
theorem dX11_readsPhrase_32 : decode cX11_readsPhrase 32 = .ok (.if_icmp .le 6, 3) := by decide +kernel
theorem dX11_readsPhrase_35 : decode cX11_readsPhrase 35 = .ok (.goto 46, 3) := by decide +kernel
theorem dX11_readsPhrase_38 : decode cX11_readsPhrase 38 = .ok (.iload_n 2, 1) := by decide +kernel
theorem dX11_readsPhrase_39 : decode cX11_readsPhrase 39 = .ok (.invokestatic 146, 3) := by decide +kernel
theorem dX11_readsPhrase_42 : decode cX11_readsPhrase 42 = .ok (.ifCond .eq 17, 3) := by decide +kernel
theorem dX11_readsPhrase_45 : decode cX11_readsPhrase 45 = .ok (.iload_n 1, 1) := by decide +kernel
theorem dX11_readsPhrase_46 : decode cX11_readsPhrase 46 = .ok (.iconst 4, 1) := by decide +kernel
theorem dX11_readsPhrase_47 : decode cX11_readsPhrase 47 = .ok (.if_icmp .ne 12, 3) := by decide +kernel
theorem dX11_readsPhrase_50 : decode cX11_readsPhrase 50 = .ok (.aload_n 0, 1) := by decide +kernel
theorem dX11_readsPhrase_51 : decode cX11_readsPhrase 51 = .ok (.iconst 2, 1) := by decide +kernel
theorem dX11_readsPhrase_52 : decode cX11_readsPhrase 52 = .ok (.aload_n 0, 1) := by decide +kernel
theorem dX11_readsPhrase_53 : decode cX11_readsPhrase 53 = .ok (.getfield 132, 3) := by decide +kernel
theorem dX11_readsPhrase_56 : decode cX11_readsPhrase 56 = .ok (.invokevirtual 150, 3) := by decide +kernel
theorem dX11_readsPhrase_59 : decode cX11_readsPhrase 59 = .ok (.aload_n 0, 1) := by decide +kernel
theorem dX11_readsPhrase_60 : decode cX11_readsPhrase 60 = .ok (.invokevirtual 154, 3) := by decide +kernel
theorem dX11_readsPhrase_63 : decode cX11_readsPhrase 63 = .ok (.ifCond .eq 12, 3) := by decide +kernel
theorem dX11_readsPhrase_66 : decode cX11_readsPhrase 66 = .ok (.aload_n 0, 1) := by decide +kernel
theorem dX11_readsPhrase_67 : decode cX11_readsPhrase 67 = .ok (.iconst 3, 1) := by decide +kernel
theorem dX11_readsPhrase_68 : decode cX11_readsPhrase 68 = .ok (.aload_n 0, 1) := by decide +kernel
theorem dX11_readsPhrase_69 : decode cX11_readsPhrase 69 = .ok (.getfield 196, 3) := by decide +kernel
theorem dX11_readsPhrase_72 : decode cX11_readsPhrase 72 = .ok (.invokevirtual 199, 3) := by decide +kernel
theorem dX11_readsPhrase_75 : decode cX11_readsPhrase 75 = .ok (.iinc 1 1, 3) := by decide +kernel
theorem dX11_readsPhrase_78 : decode cX11_readsPhrase 78 = .ok (.goto (-66), 3) := by decide +kernel
theorem dX11_readsPhrase_81 : decode cX11_readsPhrase 81 = .ok (.aload_n 0, 1) := by decide +kernel
theorem dX11_readsPhrase_82 : decode cX11_readsPhrase 82 = .ok (.dup, 1) := by decide +kernel
theorem dX11_readsPhrase_83 : decode cX11_readsPhrase 83 = .ok (.getfield 132, 3) := by decide +kernel
theorem dX11_readsPhrase_86 : decode cX11_readsPhrase 86 = .ok (.iconst 1, 1) := by decide +kernel
theorem dX11_readsPhrase_87 : decode cX11_readsPhrase 87 = .ok (.iadd, 1) := by decide +kernel
theorem dX11_readsPhrase_88 : decode cX11_readsPhrase 88 = .ok (.putfield 132, 3) := by decide +kernel
theorem dX11_readsPhrase_91 : decode cX11_readsPhrase 91 = .ok (.return_, 1) := by decide +kernel
theorem dX11_readsPart_0 : decode cX11_readsPart 0 = .ok (.aload_n 0, 1) := by decide +kernel
theorem dX11_readsPart_1 : decode cX11_readsPart 1 = .ok (.aload_n 0, 1) := by decide +kernel
theorem dX11_readsPart_2 : decode cX11_readsPart 2 = .ok (.getfield 132, 3) := by decide +kernel
theorem dX11_readsPart_5 : decode cX11_readsPart 5 = .ok (.invokevirtual 135, 3) := by decide +kernel
theorem dX11_readsPart_8 : decode cX11_readsPart 8 = .ok (.istore_n 1, 1) := by decide +kernel
theorem dX11_readsPart_9 : decode cX11_readsPart 9 = .ok (.iload_n 1, 1) := by decide +kernel
theorem dX11_readsPart_10 : decode cX11_readsPart 10 = .ok (.invokestatic 146, 3) := by decide +kernel
theorem dX11_readsPart_13 : decode cX11_readsPart 13 = .ok (.ifCond .ne 34, 3) := by decide +kernel
theorem dX11_readsPart_16 : decode cX11_readsPart 16 = .ok (.iload_n 1, 1) := by decide +kernel
theorem dX11_readsPart_17 : decode cX11_readsPart 17 = .ok (.bipush 43, 2) := by decide +kernel
theorem dX11_readsPart_19 : decode cX11_readsPart 19 = .ok (.if_icmp .eq 28, 3) := by decide +kernel
theorem dX11_readsPart_22 : decode cX11_readsPart 22 = .ok (.iload_n 1, 1) := by decide +kernel
theorem dX11_readsPart_23 : decode cX11_readsPart 23 = .ok (.bipush 45, 2) := by decide +kernel
theorem dX11_readsPart_25 : decode cX11_readsPart 25 = .ok (.if_icmp .eq 22, 3) := by decide +kernel
theorem dX11_readsPart_28 : decode cX11_readsPart 28 = .ok (.iload_n 1, 1) := by decide +kernel
theorem dX11_readsPart_29 : decode cX11_readsPart 29 = .ok (.bipush 34, 2) := by decide +kernel
theorem dX11_readsPart_31 : decode cX11_readsPart 31 = .ok (.if_icmp .eq 16, 3) := by decide +kernel
theorem dX11_readsPart_34 : decode cX11_readsPart 34 = .ok (.iload_n 1, 1) := by decide +kernel
theorem dX11_readsPart_35 : decode cX11_readsPart 35 = .ok (.bipush 126, 2) := by decide +kernel
theorem dX11_readsPart_37 : decode cX11_readsPart 37 = .ok (.if_icmp .ne 14, 3) := by decide +kernel
theorem dX11_readsPart_40 : decode cX11_readsPart 40 = .ok (.aload_n 0, 1) := by decide +kernel
theorem dX11_readsPart_41 : decode cX11_readsPart 41 = .ok (.getfield 202, 3) := by decide +kernel
theorem dX11_readsPart_44 : decode cX11_readsPart 44 = .ok (.ifCond .ne 7, 3) := by decide +kernel
theorem dX11_readsPart_47 : decode cX11_readsPart 47 = .ok (.iconst 1, 1) := by decide +kernel
theorem dX11_readsPart_48 : decode cX11_readsPart 48 = .ok (.goto 4, 3) := by decide +kernel
theorem dX11_readsPart_51 : decode cX11_readsPart 51 = .ok (.iconst 0, 1) := by decide +kernel
theorem dX11_readsPart_52 : decode cX11_readsPart 52 = .ok (.istore_n 2, 1) := by decide +kernel
theorem dX11_readsPart_53 : decode cX11_readsPart 53 = .ok (.iload_n 2, 1) := by decide +kernel
theorem dX11_readsPart_54 : decode cX11_readsPart 54 = .ok (.ifCond .ne 15, 3) := by decide +kernel
theorem dX11_readsPart_57 : decode cX11_readsPart 57 = .ok (.aload_n 0, 1) := by decide +kernel
theorem dX11_readsPart_58 : decode cX11_readsPart 58 = .ok (.iconst 1, 1) := by decide +kernel
theorem dX11_readsPart_59 : decode cX11_readsPart 59 = .ok (.aload_n 0, 1) := by decide +kernel
theorem dX11_readsPart_60 : decode cX11_readsPart 60 = .ok (.getfield 132, 3) := by decide +kernel
theorem dX11_readsPart_63 : decode cX11_readsPart 63 = .ok (.invokevirtual 150, 3) := by decide +kernel
theorem dX11_readsPart_66 : decode cX11_readsPart 66 = .ok (.goto 21, 3) := by decide +kernel
theorem dX11_readsPart_69 : decode cX11_readsPart 69 = .ok (.aload_n 0, 1) := by decide +kernel
theorem dX11_readsPart_70 : decode cX11_readsPart 70 = .ok (.getfield 196, 3) := by decide +kernel
theorem dX11_readsPart_73 : decode cX11_readsPart 73 = .ok (.bipush 6, 2) := by decide +kernel
theorem dX11_readsPart_75 : decode cX11_readsPart 75 = .ok (.if_icmp .ne 12, 3) := by decide +kernel
theorem dX11_readsPart_78 : decode cX11_readsPart 78 = .ok (.aload_n 0, 1) := by decide +kernel
theorem dX11_readsPart_79 : decode cX11_readsPart 79 = .ok (.iconst 2, 1) := by decide +kernel
theorem dX11_readsPart_80 : decode cX11_readsPart 80 = .ok (.aload_n 0, 1) := by decide +kernel
theorem dX11_readsPart_81 : decode cX11_readsPart 81 = .ok (.getfield 132, 3) := by decide +kernel
theorem dX11_readsPart_84 : decode cX11_readsPart 84 = .ok (.invokevirtual 150, 3) := by decide +kernel
theorem dX11_readsPart_87 : decode cX11_readsPart 87 = .ok (.aload_n 0, 1) := by decide +kernel
theorem dX11_readsPart_88 : decode cX11_readsPart 88 = .ok (.invokevirtual 154, 3) := by decide +kernel
theorem dX11_readsPart_91 : decode cX11_readsPart 91 = .ok (.ifCond .ne 4, 3) := by decide +kernel
theorem dX11_readsPart_94 : decode cX11_readsPart 94 = .ok (.return_, 1) := by decide +kernel
theorem dX11_readsPart_95 : decode cX11_readsPart 95 = .ok (.iload_n 1, 1) := by decide +kernel
theorem dX11_readsPart_96 : decode cX11_readsPart 96 = .ok (.bipush 126, 2) := by decide +kernel
theorem dX11_readsPart_98 : decode cX11_readsPart 98 = .ok (.if_icmp .ne 24, 3) := by decide +kernel
theorem dX11_readsPart_101 : decode cX11_readsPart 101 = .ok (.aload_n 0, 1) := by decide +kernel
theorem dX11_readsPart_102 : decode cX11_readsPart 102 = .ok (.dup, 1) := by decide +kernel
theorem dX11_readsPart_103 : decode cX11_readsPart 103 = .ok (.getfield 132, 3) := by decide +kernel
theorem dX11_readsPart_106 : decode cX11_readsPart 106 = .ok (.iconst 1, 1) := by decide +kernel
theorem dX11_readsPart_107 : decode cX11_readsPart 107 = .ok (.iadd, 1) := by decide +kernel
theorem dX11_readsPart_108 : decode cX11_readsPart 108 = .ok (.putfield 132, 3) := by decide +kernel
theorem dX11_readsPart_111 : decode cX11_readsPart 111 = .ok (.aload_n 0, 1) := by decide +kernel
theorem dX11_readsPart_112 : decode cX11_readsPart 112 = .ok (.aload_n 0, 1) := by decide +kernel
theorem dX11_readsPart_113 : decode cX11_readsPart 113 = .ok (.invokevirtual 205, 3) := by decide +kernel
theorem dX11_readsPart_116 : decode cX11_readsPart 116 = .ok (.putfield 202, 3) := by decide +kernel
theorem dX11_readsPart_119 : decode cX11_readsPart 119 = .ok (.goto 112, 3) := by decide +kernel
theorem dX11_readsPart_122 : decode cX11_readsPart 122 = .ok (.iload_n 1, 1) := by decide +kernel
theorem dX11_readsPart_123 : decode cX11_readsPart 123 = .ok (.bipush 34, 2) := by decide +kernel
theorem dX11_readsPart_125 : decode cX11_readsPart 125 = .ok (.if_icmp .ne 10, 3) := by decide +kernel
theorem dX11_readsPart_128 : decode cX11_readsPart 128 = .ok (.aload_n 0, 1) := by decide +kernel
theorem dX11_readsPart_129 : decode cX11_readsPart 129 = .ok (.invokevirtual 208, 3) := by decide +kernel
theorem dX11_readsPart_132 : decode cX11_readsPart 132 = .ok (.goto 99, 3) := by decide +kernel
theorem dX11_readsPart_135 : decode cX11_readsPart 135 = .ok (.iload_n 1, 1) := by decide +kernel
theorem dX11_readsPart_136 : decode cX11_readsPart 136 = .ok (.invokestatic 146, 3) := by decide +kernel
theorem dX11_readsPart_139 : decode cX11_readsPart 139 = .ok (.ifCond .ne 13, 3) := by decide +kernel
theorem dX11_readsPart_142 : decode cX11_readsPart 142 = .ok (.aload_n 0, 1) := by decide +kernel
theorem dX11_readsPart_143 : decode cX11_readsPart 143 = .ok (.dup, 1) := by decide +kernel
theorem dX11_readsPart_144 : decode cX11_readsPart 144 = .ok (.getfield 132, 3) := by decide +kernel
theorem dX11_readsPart_147 : decode cX11_readsPart 147 = .ok (.iconst 1, 1) := by decide +kernel
theorem dX11_readsPart_148 : decode cX11_readsPart 148 = .ok (.iadd, 1) := by decide +kernel
theorem dX11_readsPart_149 : decode cX11_readsPart 149 = .ok (.putfield 132, 3) := by decide +kernel
theorem dX11_readsPart_152 : decode cX11_readsPart 152 = .ok (.aload_n 0, 1) := by decide +kernel
theorem dX11_readsPart_153 : decode cX11_readsPart 153 = .ok (.iload_n 1, 1) := by decide +kernel
theorem dX11_readsPart_154 : decode cX11_readsPart 154 = .ok (.bipush 43, 2) := by decide +kernel
theorem dX11_readsPart_156 : decode cX11_readsPart 156 = .ok (.if_icmp .ne 7, 3) := by decide +kernel
theorem dX11_readsPart_159 : decode cX11_readsPart 159 = .ok (.iconst 1, 1) := by decide +kernel
theorem dX11_readsPart_160 : decode cX11_readsPart 160 = .ok (.goto 14, 3) := by decide +kernel
theorem dX11_readsPart_163 : decode cX11_readsPart 163 = .ok (.iload_n 1, 1) := by decide +kernel
theorem dX11_readsPart_164 : decode cX11_readsPart 164 = .ok (.bipush 45, 2) := by decide +kernel
theorem dX11_readsPart_166 : decode cX11_readsPart 166 = .ok (.if_icmp .ne 7, 3) := by decide +kernel
theorem dX11_readsPart_169 : decode cX11_readsPart 169 = .ok (.iconst 2, 1) := by decide +kernel
theorem dX11_readsPart_170 : decode cX11_readsPart 170 = .ok (.goto 4, 3) := by decide +kernel
theorem dX11_readsPart_173 : decode cX11_readsPart 173 = .ok (.iconst 0, 1) := by decide +kernel
theorem dX11_readsPart_174 : decode cX11_readsPart 174 = .ok (.iconst 0, 1) := by decide +kernel
theorem dX11_readsPart_175 : decode cX11_readsPart 175 = .ok (.invokevirtual 199, 3) := by decide +kernel
theorem dX11_readsPart_178 : decode cX11_readsPart 178 = .ok (.aload_n 0, 1) := by decide +kernel
theorem dX11_readsPart_179 : decode cX11_readsPart 179 = .ok (.invokevirtual 154, 3) := by decide +kernel
theorem dX11_readsPart_182 : decode cX11_readsPart 182 = .ok (.ifCond .eq 49, 3) := by decide +kernel
theorem dX11_readsPart_185 : decode cX11_readsPart 185 = .ok (.iload_n 1, 1) := by decide +kernel
theorem dX11_readsPart_186 : decode cX11_readsPart 186 = .ok (.bipush 45, 2) := by decide +kernel
theorem dX11_readsPart_188 : decode cX11_readsPart 188 = .ok (.if_icmp .eq 43, 3) := by decide +kernel
theorem dX11_readsPart_191 : decode cX11_readsPart 191 = .ok (.aload_n 0, 1) := by decide +kernel
theorem dX11_readsPart_192 : decode cX11_readsPart 192 = .ok (.aload_n 0, 1) := by decide +kernel
theorem dX11_readsPart_193 : decode cX11_readsPart 193 = .ok (.getfield 132, 3) := by decide +kernel
theorem dX11_readsPart_196 : decode cX11_readsPart 196 = .ok (.invokevirtual 135, 3) := by decide +kernel
theorem dX11_readsPart_199 : decode cX11_readsPart 199 = .ok (.bipush 94, 2) := by decide +kernel
theorem dX11_readsPart_201 : decode cX11_readsPart 201 = .ok (.if_icmp .ne 30, 3) := by decide +kernel
theorem dX11_readsPart_204 : decode cX11_readsPart 204 = .ok (.aload_n 0, 1) := by decide +kernel
theorem dX11_readsPart_205 : decode cX11_readsPart 205 = .ok (.dup, 1) := by decide +kernel
theorem dX11_readsPart_206 : decode cX11_readsPart 206 = .ok (.getfield 132, 3) := by decide +kernel
theorem dX11_readsPart_209 : decode cX11_readsPart 209 = .ok (.iconst 1, 1) := by decide +kernel
theorem dX11_readsPart_210 : decode cX11_readsPart 210 = .ok (.iadd, 1) := by decide +kernel
theorem dX11_readsPart_211 : decode cX11_readsPart 211 = .ok (.putfield 132, 3) := by decide +kernel
theorem dX11_readsPart_214 : decode cX11_readsPart 214 = .ok (.aload_n 0, 1) := by decide +kernel
theorem dX11_readsPart_215 : decode cX11_readsPart 215 = .ok (.getfield 62, 3) := by decide +kernel
theorem dX11_readsPart_218 : decode cX11_readsPart 218 = .ok (.aload_n 0, 1) := by decide +kernel
theorem dX11_readsPart_219 : decode cX11_readsPart 219 = .ok (.getfield 193, 3) := by decide +kernel
theorem dX11_readsPart_222 : decode cX11_readsPart 222 = .ok (.iconst 1, 1) := by decide +kernel
theorem dX11_readsPart_223 : decode cX11_readsPart 223 = .ok (.isub, 1) := by decide +kernel
theorem dX11_readsPart_224 : decode cX11_readsPart 224 = .ok (.aaload, 1) := by decide +kernel
theorem dX11_readsPart_225 : decode cX11_readsPart 225 = .ok (.iconst 1, 1) := by decide +kernel
theorem dX11_readsPart_226 : decode cX11_readsPart 226 = .ok (.aload_n 0, 1) := by decide +kernel
theorem dX11_readsPart_227 : decode cX11_readsPart 227 = .ok (.invokevirtual 205, 3) := by decide +kernel
theorem dX11_readsPart_230 : decode cX11_readsPart 230 = .ok (.iastore, 1) := by decide +kernel
theorem dX11_readsPart_231 : decode cX11_readsPart 231 = .ok (.aload_n 0, 1) := by decide +kernel
theorem dX11_readsPart_232 : decode cX11_readsPart 232 = .ok (.dup, 1) := by decide +kernel
theorem dX11_readsPart_233 : decode cX11_readsPart 233 = .ok (.getfield 196, 3) := by decide +kernel
theorem dX11_readsPart_236 : decode cX11_readsPart 236 = .ok (.iconst 1, 1) := by decide +kernel
theorem dX11_readsPart_237 : decode cX11_readsPart 237 = .ok (.iadd, 1) := by decide +kernel
theorem dX11_readsPart_238 : decode cX11_readsPart 238 = .ok (.putfield 196, 3) := by decide +kernel
theorem dX11_readsPart_241 : decode cX11_readsPart 241 = .ok (.return_, 1) := by decide +kernel
theorem dX11_scores_0 : decode cX11_scores 0 = .ok (.iconst 0, 1) := by decide +kernel
theorem dX11_scores_1 : decode cX11_scores 1 = .ok (.istore_n 3, 1) := by decide +kernel
theorem dX11_scores_2 : decode cX11_scores 2 = .ok (.iload_n 3, 1) := by decide +kernel
theorem dX11_scores_3 : decode cX11_scores 3 = .ok (.aload_n 0, 1) := by decide +kernel
theorem dX11_scores_4 : decode cX11_scores 4 = .ok (.getfield 211, 3) := by decide +kernel
theorem dX11_scores_7 : decode cX11_scores 7 = .ok (.if_icmp .ge 33, 3) := by decide +kernel
theorem dX11_scores_10 : decode cX11_scores 10 = .ok (.aload_n 0, 1) := by decide +kernel
theorem dX11_scores_11 : decode cX11_scores 11 = .ok (.getfield 44, 3) := by decide +kernel
theorem dX11_scores_14 : decode cX11_scores 14 = .ok (.iload_n 3, 1) := by decide +kernel
theorem dX11_scores_15 : decode cX11_scores 15 = .ok (.iaload, 1) := by decide +kernel
theorem dX11_scores_16 : decode cX11_scores 16 = .ok (.iload_n 1, 1) := by decide +kernel
theorem dX11_scores_17 : decode cX11_scores 17 = .ok (.if_icmp .eq 6, 3) := by decide +kernel
theorem dX11_scores_20 : decode cX11_scores 20 = .ok (.goto 14, 3) := by decide +kernel
theorem dX11_scores_23 : decode cX11_scores 23 = .ok (.aload_n 0, 1) := by decide +kernel
theorem dX11_scores_24 : decode cX11_scores 24 = .ok (.getfield 47, 3) := by decide +kernel
theorem dX11_scores_27 : decode cX11_scores 27 = .ok (.iload_n 3, 1) := by decide +kernel
theorem dX11_scores_28 : decode cX11_scores 28 = .ok (.dup2, 1) := by decide +kernel
theorem dX11_scores_29 : decode cX11_scores 29 = .ok (.iaload, 1) := by decide +kernel
theorem dX11_scores_30 : decode cX11_scores 30 = .ok (.iload_n 2, 1) := by decide +kernel
theorem dX11_scores_31 : decode cX11_scores 31 = .ok (.iadd, 1) := by decide +kernel
theorem dX11_scores_32 : decode cX11_scores 32 = .ok (.iastore, 1) := by decide +kernel
theorem dX11_scores_33 : decode cX11_scores 33 = .ok (.return_, 1) := by decide +kernel
theorem dX11_scores_34 : decode cX11_scores 34 = .ok (.iinc 3 1, 3) := by decide +kernel
theorem dX11_scores_37 : decode cX11_scores 37 = .ok (.goto (-35), 3) := by decide +kernel
theorem dX11_scores_40 : decode cX11_scores 40 = .ok (.aload_n 0, 1) := by decide +kernel
theorem dX11_scores_41 : decode cX11_scores 41 = .ok (.getfield 44, 3) := by decide +kernel
theorem dX11_scores_44 : decode cX11_scores 44 = .ok (.aload_n 0, 1) := by decide +kernel
theorem dX11_scores_45 : decode cX11_scores 45 = .ok (.getfield 211, 3) := by decide +kernel
theorem dX11_scores_48 : decode cX11_scores 48 = .ok (.iload_n 1, 1) := by decide +kernel
theorem dX11_scores_49 : decode cX11_scores 49 = .ok (.iastore, 1) := by decide +kernel
theorem dX11_scores_50 : decode cX11_scores 50 = .ok (.aload_n 0, 1) := by decide +kernel
theorem dX11_scores_51 : decode cX11_scores 51 = .ok (.getfield 47, 3) := by decide +kernel
theorem dX11_scores_54 : decode cX11_scores 54 = .ok (.aload_n 0, 1) := by decide +kernel
theorem dX11_scores_55 : decode cX11_scores 55 = .ok (.getfield 211, 3) := by decide +kernel
theorem dX11_scores_58 : decode cX11_scores 58 = .ok (.iload_n 2, 1) := by decide +kernel
theorem dX11_scores_59 : decode cX11_scores 59 = .ok (.iastore, 1) := by decide +kernel
theorem dX11_scores_60 : decode cX11_scores 60 = .ok (.aload_n 0, 1) := by decide +kernel
theorem dX11_scores_61 : decode cX11_scores 61 = .ok (.dup, 1) := by decide +kernel
theorem dX11_scores_62 : decode cX11_scores 62 = .ok (.getfield 211, 3) := by decide +kernel
theorem dX11_scores_65 : decode cX11_scores 65 = .ok (.iconst 1, 1) := by decide +kernel
theorem dX11_scores_66 : decode cX11_scores 66 = .ok (.iadd, 1) := by decide +kernel
theorem dX11_scores_67 : decode cX11_scores 67 = .ok (.putfield 211, 3) := by decide +kernel
theorem dX11_scores_70 : decode cX11_scores 70 = .ok (.return_, 1) := by decide +kernel
theorem dX11_stands_0 : decode cX11_stands 0 = .ok (.aload_n 0, 1) := by decide +kernel
theorem dX11_stands_1 : decode cX11_stands 1 = .ok (.iconst 0, 1) := by decide +kernel
theorem dX11_stands_2 : decode cX11_stands 2 = .ok (.putfield 211, 3) := by decide +kernel
theorem dX11_stands_5 : decode cX11_stands 5 = .ok (.aload_n 0, 1) := by decide +kernel
theorem dX11_stands_6 : decode cX11_stands 6 = .ok (.iconst 0, 1) := by decide +kernel
theorem dX11_stands_7 : decode cX11_stands 7 = .ok (.putfield 214, 3) := by decide +kernel
theorem dX11_stands_10 : decode cX11_stands 10 = .ok (.aload_n 0, 1) := by decide +kernel
theorem dX11_stands_11 : decode cX11_stands 11 = .ok (.iconst 0, 1) := by decide +kernel
theorem dX11_stands_12 : decode cX11_stands 12 = .ok (.putfield 217, 3) := by decide +kernel
theorem dX11_stands_15 : decode cX11_stands 15 = .ok (.aload_n 0, 1) := by decide +kernel
theorem dX11_stands_16 : decode cX11_stands 16 = .ok (.iconst 0, 1) := by decide +kernel
theorem dX11_stands_17 : decode cX11_stands 17 = .ok (.putfield 220, 3) := by decide +kernel
theorem dX11_stands_20 : decode cX11_stands 20 = .ok (.aload_n 0, 1) := by decide +kernel
theorem dX11_stands_21 : decode cX11_stands 21 = .ok (.aload_n 0, 1) := by decide +kernel
theorem dX11_stands_22 : decode cX11_stands 22 = .ok (.getfield 196, 3) := by decide +kernel
theorem dX11_stands_25 : decode cX11_stands 25 = .ok (.putfield 223, 3) := by decide +kernel
theorem dX11_stands_28 : decode cX11_stands 28 = .ok (.aload_n 0, 1) := by decide +kernel
theorem dX11_stands_29 : decode cX11_stands 29 = .ok (.aload_n 0, 1) := by decide +kernel
theorem dX11_stands_30 : decode cX11_stands 30 = .ok (.getfield 202, 3) := by decide +kernel
theorem dX11_stands_33 : decode cX11_stands 33 = .ok (.putfield 226, 3) := by decide +kernel
theorem dX11_stands_36 : decode cX11_stands 36 = .ok (.aload_n 0, 1) := by decide +kernel
theorem dX11_stands_37 : decode cX11_stands 37 = .ok (.iconst 0, 1) := by decide +kernel
theorem dX11_stands_38 : decode cX11_stands 38 = .ok (.putfield 229, 3) := by decide +kernel
theorem dX11_stands_41 : decode cX11_stands 41 = .ok (.iconst (-1), 1) := by decide +kernel
theorem dX11_stands_42 : decode cX11_stands 42 = .ok (.istore_n 1, 1) := by decide +kernel
theorem dX11_stands_43 : decode cX11_stands 43 = .ok (.iconst 0, 1) := by decide +kernel
theorem dX11_stands_44 : decode cX11_stands 44 = .ok (.istore_n 2, 1) := by decide +kernel
theorem dX11_stands_45 : decode cX11_stands 45 = .ok (.iload_n 2, 1) := by decide +kernel
theorem dX11_stands_46 : decode cX11_stands 46 = .ok (.aload_n 0, 1) := by decide +kernel
theorem dX11_stands_47 : decode cX11_stands 47 = .ok (.getfield 193, 3) := by decide +kernel
theorem dX11_stands_50 : decode cX11_stands 50 = .ok (.if_icmp .ge 194, 3) := by decide +kernel
theorem dX11_stands_53 : decode cX11_stands 53 = .ok (.aload_n 0, 1) := by decide +kernel
theorem dX11_stands_54 : decode cX11_stands 54 = .ok (.getfield 62, 3) := by decide +kernel
theorem dX11_stands_57 : decode cX11_stands 57 = .ok (.iload_n 2, 1) := by decide +kernel
theorem dX11_stands_58 : decode cX11_stands 58 = .ok (.aaload, 1) := by decide +kernel
theorem dX11_stands_59 : decode cX11_stands 59 = .ok (.astore_n 3, 1) := by decide +kernel
theorem dX11_stands_60 : decode cX11_stands 60 = .ok (.aload_n 3, 1) := by decide +kernel
theorem dX11_stands_61 : decode cX11_stands 61 = .ok (.iconst 2, 1) := by decide +kernel
theorem dX11_stands_62 : decode cX11_stands 62 = .ok (.iaload, 1) := by decide +kernel
theorem dX11_stands_63 : decode cX11_stands 63 = .ok (.iconst 2, 1) := by decide +kernel
theorem dX11_stands_64 : decode cX11_stands 64 = .ok (.if_icmp .ne 32, 3) := by decide +kernel
theorem dX11_stands_67 : decode cX11_stands 67 = .ok (.aload_n 3, 1) := by decide +kernel
theorem dX11_stands_68 : decode cX11_stands 68 = .ok (.iconst 0, 1) := by decide +kernel
theorem dX11_stands_69 : decode cX11_stands 69 = .ok (.iaload, 1) := by decide +kernel
theorem dX11_stands_70 : decode cX11_stands 70 = .ok (.iconst (-1), 1) := by decide +kernel
theorem dX11_stands_71 : decode cX11_stands 71 = .ok (.if_icmp .eq 167, 3) := by decide +kernel
theorem dX11_stands_74 : decode cX11_stands 74 = .ok (.aload_n 0, 1) := by decide +kernel
theorem dX11_stands_75 : decode cX11_stands 75 = .ok (.getfield 53, 3) := by decide +kernel
theorem dX11_stands_78 : decode cX11_stands 78 = .ok (.aload_n 0, 1) := by decide +kernel
theorem dX11_stands_79 : decode cX11_stands 79 = .ok (.dup, 1) := by decide +kernel
theorem dX11_stands_80 : decode cX11_stands 80 = .ok (.getfield 217, 3) := by decide +kernel
theorem dX11_stands_83 : decode cX11_stands 83 = .ok (.dup_x1, 1) := by decide +kernel
theorem dX11_stands_84 : decode cX11_stands 84 = .ok (.iconst 1, 1) := by decide +kernel
theorem dX11_stands_85 : decode cX11_stands 85 = .ok (.iadd, 1) := by decide +kernel
theorem dX11_stands_86 : decode cX11_stands 86 = .ok (.putfield 217, 3) := by decide +kernel
theorem dX11_stands_89 : decode cX11_stands 89 = .ok (.aload_n 3, 1) := by decide +kernel
theorem dX11_stands_90 : decode cX11_stands 90 = .ok (.iconst 0, 1) := by decide +kernel
theorem dX11_stands_91 : decode cX11_stands 91 = .ok (.iaload, 1) := by decide +kernel
theorem dX11_stands_92 : decode cX11_stands 92 = .ok (.iastore, 1) := by decide +kernel
theorem dX11_stands_93 : decode cX11_stands 93 = .ok (.goto 145, 3) := by decide +kernel
theorem dX11_stands_96 : decode cX11_stands 96 = .ok (.aload_n 3, 1) := by decide +kernel
theorem dX11_stands_97 : decode cX11_stands 97 = .ok (.iconst 0, 1) := by decide +kernel
theorem dX11_stands_98 : decode cX11_stands 98 = .ok (.iaload, 1) := by decide +kernel
theorem dX11_stands_99 : decode cX11_stands 99 = .ok (.iconst (-1), 1) := by decide +kernel
theorem dX11_stands_100 : decode cX11_stands 100 = .ok (.if_icmp .eq 13, 3) := by decide +kernel
theorem dX11_stands_103 : decode cX11_stands 103 = .ok (.aload_n 0, 1) := by decide +kernel
theorem dX11_stands_104 : decode cX11_stands 104 = .ok (.aload_n 3, 1) := by decide +kernel
theorem dX11_stands_105 : decode cX11_stands 105 = .ok (.iconst 0, 1) := by decide +kernel
theorem dX11_stands_106 : decode cX11_stands 106 = .ok (.iaload, 1) := by decide +kernel
theorem dX11_stands_107 : decode cX11_stands 107 = .ok (.aload_n 3, 1) := by decide +kernel
theorem dX11_stands_108 : decode cX11_stands 108 = .ok (.iconst 1, 1) := by decide +kernel
theorem dX11_stands_109 : decode cX11_stands 109 = .ok (.iaload, 1) := by decide +kernel
theorem dX11_stands_110 : decode cX11_stands 110 = .ok (.invokevirtual 233, 3) := by decide +kernel
theorem dX11_stands_113 : decode cX11_stands 113 = .ok (.aload_n 3, 1) := by decide +kernel
theorem dX11_stands_114 : decode cX11_stands 114 = .ok (.iconst 2, 1) := by decide +kernel
theorem dX11_stands_115 : decode cX11_stands 115 = .ok (.iaload, 1) := by decide +kernel
theorem dX11_stands_116 : decode cX11_stands 116 = .ok (.ifCond .ne 6, 3) := by decide +kernel
theorem dX11_stands_119 : decode cX11_stands 119 = .ok (.goto 119, 3) := by decide +kernel
theorem dX11_stands_122 : decode cX11_stands 122 = .ok (.aload_n 0, 1) := by decide +kernel
theorem dX11_stands_123 : decode cX11_stands 123 = .ok (.dup, 1) := by decide +kernel
theorem dX11_stands_124 : decode cX11_stands 124 = .ok (.getfield 229, 3) := by decide +kernel
theorem dX11_stands_127 : decode cX11_stands 127 = .ok (.aload_n 3, 1) := by decide +kernel
theorem dX11_stands_128 : decode cX11_stands 128 = .ok (.iconst 0, 1) := by decide +kernel
theorem dX11_stands_129 : decode cX11_stands 129 = .ok (.iaload, 1) := by decide +kernel
theorem dX11_stands_130 : decode cX11_stands 130 = .ok (.iconst (-1), 1) := by decide +kernel
theorem dX11_stands_131 : decode cX11_stands 131 = .ok (.if_icmp .ne 7, 3) := by decide +kernel
theorem dX11_stands_134 : decode cX11_stands 134 = .ok (.iconst 1, 1) := by decide +kernel
theorem dX11_stands_135 : decode cX11_stands 135 = .ok (.goto 4, 3) := by decide +kernel
theorem dX11_stands_138 : decode cX11_stands 138 = .ok (.iconst 0, 1) := by decide +kernel
theorem dX11_stands_139 : decode cX11_stands 139 = .ok (.ior, 1) := by decide +kernel
theorem dX11_stands_140 : decode cX11_stands 140 = .ok (.putfield 229, 3) := by decide +kernel
theorem dX11_stands_143 : decode cX11_stands 143 = .ok (.aload_n 3, 1) := by decide +kernel
theorem dX11_stands_144 : decode cX11_stands 144 = .ok (.iconst 0, 1) := by decide +kernel
theorem dX11_stands_145 : decode cX11_stands 145 = .ok (.iaload, 1) := by decide +kernel
theorem dX11_stands_146 : decode cX11_stands 146 = .ok (.iconst (-1), 1) := by decide +kernel
theorem dX11_stands_147 : decode cX11_stands 147 = .ok (.if_icmp .eq 22, 3) := by decide +kernel
theorem dX11_stands_150 : decode cX11_stands 150 = .ok (.aload_n 0, 1) := by decide +kernel
theorem dX11_stands_151 : decode cX11_stands 151 = .ok (.getfield 50, 3) := by decide +kernel
theorem dX11_stands_154 : decode cX11_stands 154 = .ok (.aload_n 0, 1) := by decide +kernel
theorem dX11_stands_155 : decode cX11_stands 155 = .ok (.dup, 1) := by decide +kernel
theorem dX11_stands_156 : decode cX11_stands 156 = .ok (.getfield 214, 3) := by decide +kernel
theorem dX11_stands_159 : decode cX11_stands 159 = .ok (.dup_x1, 1) := by decide +kernel
theorem dX11_stands_160 : decode cX11_stands 160 = .ok (.iconst 1, 1) := by decide +kernel
theorem dX11_stands_161 : decode cX11_stands 161 = .ok (.iadd, 1) := by decide +kernel
theorem dX11_stands_162 : decode cX11_stands 162 = .ok (.putfield 214, 3) := by decide +kernel
theorem dX11_stands_165 : decode cX11_stands 165 = .ok (.aload_n 3, 1) := by decide +kernel
theorem dX11_stands_166 : decode cX11_stands 166 = .ok (.iconst 0, 1) := by decide +kernel
theorem dX11_stands_167 : decode cX11_stands 167 = .ok (.iaload, 1) := by decide +kernel
theorem dX11_stands_168 : decode cX11_stands 168 = .ok (.iastore, 1) := by decide +kernel
theorem dX11_stands_169 : decode cX11_stands 169 = .ok (.aload_n 3, 1) := by decide +kernel
theorem dX11_stands_170 : decode cX11_stands 170 = .ok (.iconst 2, 1) := by decide +kernel
theorem dX11_stands_171 : decode cX11_stands 171 = .ok (.iaload, 1) := by decide +kernel
theorem dX11_stands_172 : decode cX11_stands 172 = .ok (.iconst 3, 1) := by decide +kernel
theorem dX11_stands_173 : decode cX11_stands 173 = .ok (.if_icmp .eq 6, 3) := by decide +kernel
theorem dX11_stands_176 : decode cX11_stands 176 = .ok (.goto 62, 3) := by decide +kernel
theorem dX11_stands_179 : decode cX11_stands 179 = .ok (.aload_n 3, 1) := by decide +kernel
theorem dX11_stands_180 : decode cX11_stands 180 = .ok (.iconst 3, 1) := by decide +kernel
theorem dX11_stands_181 : decode cX11_stands 181 = .ok (.iaload, 1) := by decide +kernel
theorem dX11_stands_182 : decode cX11_stands 182 = .ok (.iload_n 1, 1) := by decide +kernel
theorem dX11_stands_183 : decode cX11_stands 183 = .ok (.if_icmp .eq 20, 3) := by decide +kernel
theorem dX11_stands_186 : decode cX11_stands 186 = .ok (.aload_n 0, 1) := by decide +kernel
theorem dX11_stands_187 : decode cX11_stands 187 = .ok (.getfield 56, 3) := by decide +kernel
theorem dX11_stands_190 : decode cX11_stands 190 = .ok (.aload_n 0, 1) := by decide +kernel
theorem dX11_stands_191 : decode cX11_stands 191 = .ok (.dup, 1) := by decide +kernel
theorem dX11_stands_192 : decode cX11_stands 192 = .ok (.getfield 220, 3) := by decide +kernel
theorem dX11_stands_195 : decode cX11_stands 195 = .ok (.dup_x1, 1) := by decide +kernel
theorem dX11_stands_196 : decode cX11_stands 196 = .ok (.iconst 1, 1) := by decide +kernel
theorem dX11_stands_197 : decode cX11_stands 197 = .ok (.iadd, 1) := by decide +kernel
theorem dX11_stands_198 : decode cX11_stands 198 = .ok (.putfield 220, 3) := by decide +kernel
theorem dX11_stands_201 : decode cX11_stands 201 = .ok (.iconst 0, 1) := by decide +kernel
theorem dX11_stands_202 : decode cX11_stands 202 = .ok (.iastore, 1) := by decide +kernel
theorem dX11_stands_203 : decode cX11_stands 203 = .ok (.aload_n 3, 1) := by decide +kernel
theorem dX11_stands_204 : decode cX11_stands 204 = .ok (.iconst 3, 1) := by decide +kernel
theorem dX11_stands_205 : decode cX11_stands 205 = .ok (.iaload, 1) := by decide +kernel
theorem dX11_stands_206 : decode cX11_stands 206 = .ok (.istore_n 1, 1) := by decide +kernel
theorem dX11_stands_207 : decode cX11_stands 207 = .ok (.aload_n 0, 1) := by decide +kernel
theorem dX11_stands_208 : decode cX11_stands 208 = .ok (.getfield 59, 3) := by decide +kernel
theorem dX11_stands_211 : decode cX11_stands 211 = .ok (.aload_n 0, 1) := by decide +kernel
theorem dX11_stands_212 : decode cX11_stands 212 = .ok (.getfield 220, 3) := by decide +kernel
theorem dX11_stands_215 : decode cX11_stands 215 = .ok (.iconst 1, 1) := by decide +kernel
theorem dX11_stands_216 : decode cX11_stands 216 = .ok (.isub, 1) := by decide +kernel
theorem dX11_stands_217 : decode cX11_stands 217 = .ok (.aaload, 1) := by decide +kernel
theorem dX11_stands_218 : decode cX11_stands 218 = .ok (.aload_n 0, 1) := by decide +kernel
theorem dX11_stands_219 : decode cX11_stands 219 = .ok (.getfield 56, 3) := by decide +kernel
theorem dX11_stands_222 : decode cX11_stands 222 = .ok (.aload_n 0, 1) := by decide +kernel
theorem dX11_stands_223 : decode cX11_stands 223 = .ok (.getfield 220, 3) := by decide +kernel
theorem dX11_stands_226 : decode cX11_stands 226 = .ok (.iconst 1, 1) := by decide +kernel
theorem dX11_stands_227 : decode cX11_stands 227 = .ok (.isub, 1) := by decide +kernel
theorem dX11_stands_228 : decode cX11_stands 228 = .ok (.dup2, 1) := by decide +kernel
theorem dX11_stands_229 : decode cX11_stands 229 = .ok (.iaload, 1) := by decide +kernel
theorem dX11_stands_230 : decode cX11_stands 230 = .ok (.dup_x2, 1) := by decide +kernel
theorem dX11_stands_231 : decode cX11_stands 231 = .ok (.iconst 1, 1) := by decide +kernel
theorem dX11_stands_232 : decode cX11_stands 232 = .ok (.iadd, 1) := by decide +kernel
theorem dX11_stands_233 : decode cX11_stands 233 = .ok (.iastore, 1) := by decide +kernel
theorem dX11_stands_234 : decode cX11_stands 234 = .ok (.aload_n 3, 1) := by decide +kernel
theorem dX11_stands_235 : decode cX11_stands 235 = .ok (.iconst 0, 1) := by decide +kernel
theorem dX11_stands_236 : decode cX11_stands 236 = .ok (.iaload, 1) := by decide +kernel
theorem dX11_stands_237 : decode cX11_stands 237 = .ok (.iastore, 1) := by decide +kernel
theorem dX11_stands_238 : decode cX11_stands 238 = .ok (.iinc 2 1, 3) := by decide +kernel
theorem dX11_stands_241 : decode cX11_stands 241 = .ok (.goto (-196), 3) := by decide +kernel
theorem dX11_stands_244 : decode cX11_stands 244 = .ok (.return_, 1) := by decide +kernel
theorem dX11_ask_0 : decode cX11_ask 0 = .ok (.aload_n 0, 1) := by decide +kernel
theorem dX11_ask_1 : decode cX11_ask 1 = .ok (.iconst 0, 1) := by decide +kernel
theorem dX11_ask_2 : decode cX11_ask 2 = .ok (.putfield 117, 3) := by decide +kernel
theorem dX11_ask_5 : decode cX11_ask 5 = .ok (.aload_n 0, 1) := by decide +kernel
theorem dX11_ask_6 : decode cX11_ask 6 = .ok (.iload_n 1, 1) := by decide +kernel
theorem dX11_ask_7 : decode cX11_ask 7 = .ok (.iconst 0, 1) := by decide +kernel
theorem dX11_ask_8 : decode cX11_ask 8 = .ok (.bipush 120, 2) := by decide +kernel
theorem dX11_ask_10 : decode cX11_ask 10 = .ok (.aload_n 0, 1) := by decide +kernel
theorem dX11_ask_11 : decode cX11_ask 11 = .ok (.getfield 120, 3) := by decide +kernel
theorem dX11_ask_14 : decode cX11_ask 14 = .ok (.invokestatic 236, 3) := by decide +kernel
theorem dX11_ask_17 : decode cX11_ask 17 = .ok (.invokestatic 172, 3) := by decide +kernel
theorem dX11_ask_20 : decode cX11_ask 20 = .ok (.ifCond .ne 7, 3) := by decide +kernel
theorem dX11_ask_23 : decode cX11_ask 23 = .ok (.iconst 1, 1) := by decide +kernel
theorem dX11_ask_24 : decode cX11_ask 24 = .ok (.goto 4, 3) := by decide +kernel
theorem dX11_ask_27 : decode cX11_ask 27 = .ok (.iconst 0, 1) := by decide +kernel
theorem dX11_ask_28 : decode cX11_ask 28 = .ok (.iconst 1, 1) := by decide +kernel
theorem dX11_ask_29 : decode cX11_ask 29 = .ok (.iconst 1, 1) := by decide +kernel
theorem dX11_ask_30 : decode cX11_ask 30 = .ok (.invokevirtual 179, 3) := by decide +kernel
theorem dX11_ask_33 : decode cX11_ask 33 = .ok (.ifCond .eq 5, 3) := by decide +kernel
theorem dX11_ask_36 : decode cX11_ask 36 = .ok (.iconst 0, 1) := by decide +kernel
theorem dX11_ask_37 : decode cX11_ask 37 = .ok (.ireturn, 1) := by decide +kernel
theorem dX11_ask_38 : decode cX11_ask 38 = .ok (.aload_n 0, 1) := by decide +kernel
theorem dX11_ask_39 : decode cX11_ask 39 = .ok (.iload_n 1, 1) := by decide +kernel
theorem dX11_ask_40 : decode cX11_ask 40 = .ok (.invokevirtual 183, 3) := by decide +kernel
theorem dX11_ask_43 : decode cX11_ask 43 = .ok (.aload_n 0, 1) := by decide +kernel
theorem dX11_ask_44 : decode cX11_ask 44 = .ok (.iconst 0, 1) := by decide +kernel
theorem dX11_ask_45 : decode cX11_ask 45 = .ok (.putfield 193, 3) := by decide +kernel
theorem dX11_ask_48 : decode cX11_ask 48 = .ok (.aload_n 0, 1) := by decide +kernel
theorem dX11_ask_49 : decode cX11_ask 49 = .ok (.iconst 0, 1) := by decide +kernel
theorem dX11_ask_50 : decode cX11_ask 50 = .ok (.putfield 196, 3) := by decide +kernel
theorem dX11_ask_53 : decode cX11_ask 53 = .ok (.aload_n 0, 1) := by decide +kernel
theorem dX11_ask_54 : decode cX11_ask 54 = .ok (.iconst 0, 1) := by decide +kernel
theorem dX11_ask_55 : decode cX11_ask 55 = .ok (.putfield 202, 3) := by decide +kernel
theorem dX11_ask_58 : decode cX11_ask 58 = .ok (.aload_n 0, 1) := by decide +kernel
theorem dX11_ask_59 : decode cX11_ask 59 = .ok (.invokevirtual 154, 3) := by decide +kernel
theorem dX11_ask_62 : decode cX11_ask 62 = .ok (.ifCond .eq 18, 3) := by decide +kernel
theorem dX11_ask_65 : decode cX11_ask 65 = .ok (.aload_n 0, 1) := by decide +kernel
theorem dX11_ask_66 : decode cX11_ask 66 = .ok (.invokevirtual 187, 3) := by decide +kernel
theorem dX11_ask_69 : decode cX11_ask 69 = .ok (.iconst (-1), 1) := by decide +kernel
theorem dX11_ask_70 : decode cX11_ask 70 = .ok (.if_icmp .eq 10, 3) := by decide +kernel
theorem dX11_ask_73 : decode cX11_ask 73 = .ok (.aload_n 0, 1) := by decide +kernel
theorem dX11_ask_74 : decode cX11_ask 74 = .ok (.invokevirtual 240, 3) := by decide +kernel
theorem dX11_ask_77 : decode cX11_ask 77 = .ok (.goto (-19), 3) := by decide +kernel
theorem dX11_ask_80 : decode cX11_ask 80 = .ok (.aload_n 0, 1) := by decide +kernel
theorem dX11_ask_81 : decode cX11_ask 81 = .ok (.getfield 196, 3) := by decide +kernel
theorem dX11_ask_84 : decode cX11_ask 84 = .ok (.ifCond .ne 12, 3) := by decide +kernel
theorem dX11_ask_87 : decode cX11_ask 87 = .ok (.aload_n 0, 1) := by decide +kernel
theorem dX11_ask_88 : decode cX11_ask 88 = .ok (.iconst 1, 1) := by decide +kernel
theorem dX11_ask_89 : decode cX11_ask 89 = .ok (.aload_n 0, 1) := by decide +kernel
theorem dX11_ask_90 : decode cX11_ask 90 = .ok (.getfield 132, 3) := by decide +kernel
theorem dX11_ask_93 : decode cX11_ask 93 = .ok (.invokevirtual 150, 3) := by decide +kernel
theorem dX11_ask_96 : decode cX11_ask 96 = .ok (.aload_n 0, 1) := by decide +kernel
theorem dX11_ask_97 : decode cX11_ask 97 = .ok (.aload_n 0, 1) := by decide +kernel
theorem dX11_ask_98 : decode cX11_ask 98 = .ok (.getfield 129, 3) := by decide +kernel
theorem dX11_ask_101 : decode cX11_ask 101 = .ok (.putfield 13, 3) := by decide +kernel
theorem dX11_ask_104 : decode cX11_ask 104 = .ok (.aload_n 0, 1) := by decide +kernel
theorem dX11_ask_105 : decode cX11_ask 105 = .ok (.invokevirtual 154, 3) := by decide +kernel
theorem dX11_ask_108 : decode cX11_ask 108 = .ok (.ifCond .ne 11, 3) := by decide +kernel
theorem dX11_ask_111 : decode cX11_ask 111 = .ok (.aload_n 0, 1) := by decide +kernel
theorem dX11_ask_112 : decode cX11_ask 112 = .ok (.getfield 126, 3) := by decide +kernel
theorem dX11_ask_115 : decode cX11_ask 115 = .ok (.bipush 10, 2) := by decide +kernel
theorem dX11_ask_117 : decode cX11_ask 117 = .ok (.isub, 1) := by decide +kernel
theorem dX11_ask_118 : decode cX11_ask 118 = .ok (.ireturn, 1) := by decide +kernel
theorem dX11_ask_119 : decode cX11_ask 119 = .ok (.aload_n 0, 1) := by decide +kernel
theorem dX11_ask_120 : decode cX11_ask 120 = .ok (.invokevirtual 243, 3) := by decide +kernel
theorem dX11_ask_123 : decode cX11_ask 123 = .ok (.aload_n 0, 1) := by decide +kernel
theorem dX11_ask_124 : decode cX11_ask 124 = .ok (.getfield 211, 3) := by decide +kernel
theorem dX11_ask_127 : decode cX11_ask 127 = .ok (.ireturn, 1) := by decide +kernel
theorem dX11_isKept_0 : decode cX11_isKept 0 = .ok (.aload_n 0, 1) := by decide +kernel
theorem dX11_isKept_1 : decode cX11_isKept 1 = .ok (.getfield 31, 3) := by decide +kernel
theorem dX11_isKept_4 : decode cX11_isKept 4 = .ok (.iload_n 1, 1) := by decide +kernel
theorem dX11_isKept_5 : decode cX11_isKept 5 = .ok (.iaload, 1) := by decide +kernel
theorem dX11_isKept_6 : decode cX11_isKept 6 = .ok (.iconst 1, 1) := by decide +kernel
theorem dX11_isKept_7 : decode cX11_isKept 7 = .ok (.if_icmp .eq 13, 3) := by decide +kernel
theorem dX11_isKept_10 : decode cX11_isKept 10 = .ok (.aload_n 0, 1) := by decide +kernel
theorem dX11_isKept_11 : decode cX11_isKept 11 = .ok (.getfield 31, 3) := by decide +kernel
theorem dX11_isKept_14 : decode cX11_isKept 14 = .ok (.iload_n 1, 1) := by decide +kernel
theorem dX11_isKept_15 : decode cX11_isKept 15 = .ok (.iaload, 1) := by decide +kernel
theorem dX11_isKept_16 : decode cX11_isKept 16 = .ok (.iconst 2, 1) := by decide +kernel
theorem dX11_isKept_17 : decode cX11_isKept 17 = .ok (.if_icmp .ne 7, 3) := by decide +kernel
theorem dX11_isKept_20 : decode cX11_isKept 20 = .ok (.iconst 1, 1) := by decide +kernel
theorem dX11_isKept_21 : decode cX11_isKept 21 = .ok (.goto 4, 3) := by decide +kernel
theorem dX11_isKept_24 : decode cX11_isKept 24 = .ok (.iconst 0, 1) := by decide +kernel
theorem dX11_isKept_25 : decode cX11_isKept 25 = .ok (.ireturn, 1) := by decide +kernel
theorem dX11_kept_0 : decode cX11_kept 0 = .ok (.iconst 0, 1) := by decide +kernel
theorem dX11_kept_1 : decode cX11_kept 1 = .ok (.istore_n 1, 1) := by decide +kernel
theorem dX11_kept_2 : decode cX11_kept 2 = .ok (.iconst 0, 1) := by decide +kernel
theorem dX11_kept_3 : decode cX11_kept 3 = .ok (.istore_n 2, 1) := by decide +kernel
theorem dX11_kept_4 : decode cX11_kept 4 = .ok (.iload_n 2, 1) := by decide +kernel
theorem dX11_kept_5 : decode cX11_kept 5 = .ok (.aload_n 0, 1) := by decide +kernel
theorem dX11_kept_6 : decode cX11_kept 6 = .ok (.getfield 176, 3) := by decide +kernel
theorem dX11_kept_9 : decode cX11_kept 9 = .ok (.if_icmp .ge 25, 3) := by decide +kernel
theorem dX11_kept_12 : decode cX11_kept 12 = .ok (.iload_n 1, 1) := by decide +kernel
theorem dX11_kept_13 : decode cX11_kept 13 = .ok (.aload_n 0, 1) := by decide +kernel
theorem dX11_kept_14 : decode cX11_kept 14 = .ok (.iload_n 2, 1) := by decide +kernel
theorem dX11_kept_15 : decode cX11_kept 15 = .ok (.invokevirtual 246, 3) := by decide +kernel
theorem dX11_kept_18 : decode cX11_kept 18 = .ok (.ifCond .eq 7, 3) := by decide +kernel
theorem dX11_kept_21 : decode cX11_kept 21 = .ok (.iconst 1, 1) := by decide +kernel
theorem dX11_kept_22 : decode cX11_kept 22 = .ok (.goto 4, 3) := by decide +kernel
theorem dX11_kept_25 : decode cX11_kept 25 = .ok (.iconst 0, 1) := by decide +kernel
theorem dX11_kept_26 : decode cX11_kept 26 = .ok (.iadd, 1) := by decide +kernel
theorem dX11_kept_27 : decode cX11_kept 27 = .ok (.istore_n 1, 1) := by decide +kernel
theorem dX11_kept_28 : decode cX11_kept 28 = .ok (.iinc 2 1, 3) := by decide +kernel
theorem dX11_kept_31 : decode cX11_kept 31 = .ok (.goto (-27), 3) := by decide +kernel
theorem dX11_kept_34 : decode cX11_kept 34 = .ok (.iload_n 1, 1) := by decide +kernel
theorem dX11_kept_35 : decode cX11_kept 35 = .ok (.ireturn, 1) := by decide +kernel
theorem dX11_gathers_0 : decode cX11_gathers 0 = .ok (.aload_n 0, 1) := by decide +kernel
theorem dX11_gathers_1 : decode cX11_gathers 1 = .ok (.iconst 0, 1) := by decide +kernel
theorem dX11_gathers_2 : decode cX11_gathers 2 = .ok (.putfield 249, 3) := by decide +kernel
theorem dX11_gathers_5 : decode cX11_gathers 5 = .ok (.iconst 0, 1) := by decide +kernel
theorem dX11_gathers_6 : decode cX11_gathers 6 = .ok (.istore_n 2, 1) := by decide +kernel
theorem dX11_gathers_7 : decode cX11_gathers 7 = .ok (.iload_n 2, 1) := by decide +kernel
theorem dX11_gathers_8 : decode cX11_gathers 8 = .ok (.aload_n 0, 1) := by decide +kernel
theorem dX11_gathers_9 : decode cX11_gathers 9 = .ok (.getfield 176, 3) := by decide +kernel
theorem dX11_gathers_12 : decode cX11_gathers 12 = .ok (.if_icmp .ge 51, 3) := by decide +kernel
theorem dX11_gathers_15 : decode cX11_gathers 15 = .ok (.aload_n 0, 1) := by decide +kernel
theorem dX11_gathers_16 : decode cX11_gathers 16 = .ok (.iload_n 2, 1) := by decide +kernel
theorem dX11_gathers_17 : decode cX11_gathers 17 = .ok (.invokevirtual 246, 3) := by decide +kernel
theorem dX11_gathers_20 : decode cX11_gathers 20 = .ok (.ifCond .eq 37, 3) := by decide +kernel
theorem dX11_gathers_23 : decode cX11_gathers 23 = .ok (.aload_n 0, 1) := by decide +kernel
theorem dX11_gathers_24 : decode cX11_gathers 24 = .ok (.getfield 41, 3) := by decide +kernel
theorem dX11_gathers_27 : decode cX11_gathers 27 = .ok (.iload_n 1, 1) := by decide +kernel
theorem dX11_gathers_28 : decode cX11_gathers 28 = .ok (.aaload, 1) := by decide +kernel
theorem dX11_gathers_29 : decode cX11_gathers 29 = .ok (.iload_n 2, 1) := by decide +kernel
theorem dX11_gathers_30 : decode cX11_gathers 30 = .ok (.iaload, 1) := by decide +kernel
theorem dX11_gathers_31 : decode cX11_gathers 31 = .ok (.ifCond .ne 6, 3) := by decide +kernel
theorem dX11_gathers_34 : decode cX11_gathers 34 = .ok (.goto 23, 3) := by decide +kernel
theorem dX11_gathers_37 : decode cX11_gathers 37 = .ok (.aload_n 0, 1) := by decide +kernel
theorem dX11_gathers_38 : decode cX11_gathers 38 = .ok (.getfield 65, 3) := by decide +kernel
theorem dX11_gathers_41 : decode cX11_gathers 41 = .ok (.aload_n 0, 1) := by decide +kernel
theorem dX11_gathers_42 : decode cX11_gathers 42 = .ok (.getfield 249, 3) := by decide +kernel
theorem dX11_gathers_45 : decode cX11_gathers 45 = .ok (.iload_n 2, 1) := by decide +kernel
theorem dX11_gathers_46 : decode cX11_gathers 46 = .ok (.iastore, 1) := by decide +kernel
theorem dX11_gathers_47 : decode cX11_gathers 47 = .ok (.aload_n 0, 1) := by decide +kernel
theorem dX11_gathers_48 : decode cX11_gathers 48 = .ok (.dup, 1) := by decide +kernel
theorem dX11_gathers_49 : decode cX11_gathers 49 = .ok (.getfield 249, 3) := by decide +kernel
theorem dX11_gathers_52 : decode cX11_gathers 52 = .ok (.iconst 1, 1) := by decide +kernel
theorem dX11_gathers_53 : decode cX11_gathers 53 = .ok (.iadd, 1) := by decide +kernel
theorem dX11_gathers_54 : decode cX11_gathers 54 = .ok (.putfield 249, 3) := by decide +kernel
theorem dX11_gathers_57 : decode cX11_gathers 57 = .ok (.iinc 2 1, 3) := by decide +kernel
theorem dX11_gathers_60 : decode cX11_gathers 60 = .ok (.goto (-53), 3) := by decide +kernel
theorem dX11_gathers_63 : decode cX11_gathers 63 = .ok (.return_, 1) := by decide +kernel
theorem dX11_gain_0 : decode cX11_gain 0 = .ok (.aload_n 0, 1) := by decide +kernel
theorem dX11_gain_1 : decode cX11_gain 1 = .ok (.getfield 41, 3) := by decide +kernel
theorem dX11_gain_4 : decode cX11_gain 4 = .ok (.iload_n 1, 1) := by decide +kernel
theorem dX11_gain_5 : decode cX11_gain 5 = .ok (.aaload, 1) := by decide +kernel
theorem dX11_gain_6 : decode cX11_gain 6 = .ok (.iload_n 2, 1) := by decide +kernel
theorem dX11_gain_7 : decode cX11_gain 7 = .ok (.iaload, 1) := by decide +kernel
theorem dX11_gain_8 : decode cX11_gain 8 = .ok (.sipush 1000, 3) := by decide +kernel
theorem dX11_gain_11 : decode cX11_gain 11 = .ok (.imul, 1) := by decide +kernel
theorem dX11_gain_12 : decode cX11_gain 12 = .ok (.aload_n 0, 1) := by decide +kernel
theorem dX11_gain_13 : decode cX11_gain 13 = .ok (.getfield 41, 3) := by decide +kernel
theorem dX11_gain_16 : decode cX11_gain 16 = .ok (.iload_n 1, 1) := by decide +kernel
theorem dX11_gain_17 : decode cX11_gain 17 = .ok (.aaload, 1) := by decide +kernel
theorem dX11_gain_18 : decode cX11_gain 18 = .ok (.iload_n 2, 1) := by decide +kernel
theorem dX11_gain_19 : decode cX11_gain 19 = .ok (.iaload, 1) := by decide +kernel
theorem dX11_gain_20 : decode cX11_gain 20 = .ok (.iconst 1, 1) := by decide +kernel
theorem dX11_gain_21 : decode cX11_gain 21 = .ok (.iadd, 1) := by decide +kernel
theorem dX11_gain_22 : decode cX11_gain 22 = .ok (.aload_n 0, 1) := by decide +kernel
theorem dX11_gain_23 : decode cX11_gain 23 = .ok (.getfield 28, 3) := by decide +kernel
theorem dX11_gain_26 : decode cX11_gain 26 = .ok (.iload_n 2, 1) := by decide +kernel
theorem dX11_gain_27 : decode cX11_gain 27 = .ok (.iaload, 1) := by decide +kernel
theorem dX11_gain_28 : decode cX11_gain 28 = .ok (.iconst 4, 1) := by decide +kernel
theorem dX11_gain_29 : decode cX11_gain 29 = .ok (.idiv, 1) := by decide +kernel
theorem dX11_gain_30 : decode cX11_gain 30 = .ok (.iadd, 1) := by decide +kernel
theorem dX11_gain_31 : decode cX11_gain 31 = .ok (.idiv, 1) := by decide +kernel
theorem dX11_gain_32 : decode cX11_gain 32 = .ok (.ireturn, 1) := by decide +kernel
theorem dX11_rare_0 : decode cX11_rare 0 = .ok (.aload_n 0, 1) := by decide +kernel
theorem dX11_rare_1 : decode cX11_rare 1 = .ok (.iload_n 1, 1) := by decide +kernel
theorem dX11_rare_2 : decode cX11_rare 2 = .ok (.invokevirtual 252, 3) := by decide +kernel
theorem dX11_rare_5 : decode cX11_rare 5 = .ok (.aload_n 0, 1) := by decide +kernel
theorem dX11_rare_6 : decode cX11_rare 6 = .ok (.getfield 249, 3) := by decide +kernel
theorem dX11_rare_9 : decode cX11_rare 9 = .ok (.ifCond .ne 5, 3) := by decide +kernel
theorem dX11_rare_12 : decode cX11_rare 12 = .ok (.iconst 0, 1) := by decide +kernel
theorem dX11_rare_13 : decode cX11_rare 13 = .ok (.ireturn, 1) := by decide +kernel
theorem dX11_rare_14 : decode cX11_rare 14 = .ok (.iconst 1, 1) := by decide +kernel
theorem dX11_rare_15 : decode cX11_rare 15 = .ok (.istore_n 2, 1) := by decide +kernel
theorem dX11_rare_16 : decode cX11_rare 16 = .ok (.aload_n 0, 1) := by decide +kernel
theorem dX11_rare_17 : decode cX11_rare 17 = .ok (.invokevirtual 255, 3) := by decide +kernel
theorem dX11_rare_20 : decode cX11_rare 20 = .ok (.aload_n 0, 1) := by decide +kernel
theorem dX11_rare_21 : decode cX11_rare 21 = .ok (.getfield 249, 3) := by decide +kernel
theorem dX11_rare_24 : decode cX11_rare 24 = .ok (.idiv, 1) := by decide +kernel
theorem dX11_rare_25 : decode cX11_rare 25 = .ok (.istore_n 3, 1) := by decide +kernel
theorem dX11_rare_26 : decode cX11_rare 26 = .ok (.iload_n 3, 1) := by decide +kernel
theorem dX11_rare_27 : decode cX11_rare 27 = .ok (.iconst 1, 1) := by decide +kernel
theorem dX11_rare_28 : decode cX11_rare 28 = .ok (.if_icmp .le 13, 3) := by decide +kernel
theorem dX11_rare_31 : decode cX11_rare 31 = .ok (.iinc 2 1, 3) := by decide +kernel
theorem dX11_rare_34 : decode cX11_rare 34 = .ok (.iload_n 3, 1) := by decide +kernel
theorem dX11_rare_35 : decode cX11_rare 35 = .ok (.iconst 2, 1) := by decide +kernel
theorem dX11_rare_36 : decode cX11_rare 36 = .ok (.idiv, 1) := by decide +kernel
theorem dX11_rare_37 : decode cX11_rare 37 = .ok (.istore_n 3, 1) := by decide +kernel
theorem dX11_rare_38 : decode cX11_rare 38 = .ok (.goto (-12), 3) := by decide +kernel
theorem dX11_rare_41 : decode cX11_rare 41 = .ok (.iload_n 2, 1) := by decide +kernel
theorem dX11_rare_42 : decode cX11_rare 42 = .ok (.ireturn, 1) := by decide +kernel
theorem dX11_top_0 : decode cX11_top 0 = .ok (.iconst 0, 1) := by decide +kernel
theorem dX11_top_1 : decode cX11_top 1 = .ok (.istore 4, 2) := by decide +kernel
theorem dX11_top_3 : decode cX11_top 3 = .ok (.iload_n 2, 1) := by decide +kernel
theorem dX11_top_4 : decode cX11_top 4 = .ok (.istore 5, 2) := by decide +kernel
theorem dX11_top_6 : decode cX11_top 6 = .ok (.iload 5, 2) := by decide +kernel
theorem dX11_top_8 : decode cX11_top 8 = .ok (.iload_n 3, 1) := by decide +kernel
theorem dX11_top_9 : decode cX11_top 9 = .ok (.if_icmp .ge 28, 3) := by decide +kernel
theorem dX11_top_12 : decode cX11_top 12 = .ok (.iload 4, 2) := by decide +kernel
theorem dX11_top_14 : decode cX11_top 14 = .ok (.aload_n 0, 1) := by decide +kernel
theorem dX11_top_15 : decode cX11_top 15 = .ok (.iload_n 1, 1) := by decide +kernel
theorem dX11_top_16 : decode cX11_top 16 = .ok (.aload_n 0, 1) := by decide +kernel
theorem dX11_top_17 : decode cX11_top 17 = .ok (.getfield 65, 3) := by decide +kernel
theorem dX11_top_20 : decode cX11_top 20 = .ok (.iload 5, 2) := by decide +kernel
theorem dX11_top_22 : decode cX11_top 22 = .ok (.iaload, 1) := by decide +kernel
theorem dX11_top_23 : decode cX11_top 23 = .ok (.invokevirtual 258, 3) := by decide +kernel
theorem dX11_top_26 : decode cX11_top 26 = .ok (.invokestatic 261, 3) := by decide +kernel
theorem dX11_top_29 : decode cX11_top 29 = .ok (.istore 4, 2) := by decide +kernel
theorem dX11_top_31 : decode cX11_top 31 = .ok (.iinc 5 1, 3) := by decide +kernel
theorem dX11_top_34 : decode cX11_top 34 = .ok (.goto (-28), 3) := by decide +kernel
theorem dX11_top_37 : decode cX11_top 37 = .ok (.iload 4, 2) := by decide +kernel
theorem dX11_top_39 : decode cX11_top 39 = .ok (.ireturn, 1) := by decide +kernel
theorem dX11_blocksOf_0 : decode cX11_blocksOf 0 = .ok (.iload_n 0, 1) := by decide +kernel
theorem dX11_blocksOf_1 : decode cX11_blocksOf 1 = .ok (.iload_n 1, 1) := by decide +kernel
theorem dX11_blocksOf_2 : decode cX11_blocksOf 2 = .ok (.iadd, 1) := by decide +kernel
theorem dX11_blocksOf_3 : decode cX11_blocksOf 3 = .ok (.iconst 1, 1) := by decide +kernel
theorem dX11_blocksOf_4 : decode cX11_blocksOf 4 = .ok (.isub, 1) := by decide +kernel
theorem dX11_blocksOf_5 : decode cX11_blocksOf 5 = .ok (.iload_n 1, 1) := by decide +kernel
theorem dX11_blocksOf_6 : decode cX11_blocksOf 6 = .ok (.idiv, 1) := by decide +kernel
theorem dX11_blocksOf_7 : decode cX11_blocksOf 7 = .ok (.ireturn, 1) := by decide +kernel
theorem dX11_widthOf_0 : decode cX11_widthOf 0 = .ok (.iconst 0, 1) := by decide +kernel
theorem dX11_widthOf_1 : decode cX11_widthOf 1 = .ok (.istore_n 1, 1) := by decide +kernel
theorem dX11_widthOf_2 : decode cX11_widthOf 2 = .ok (.iload_n 0, 1) := by decide +kernel
theorem dX11_widthOf_3 : decode cX11_widthOf 3 = .ok (.istore_n 2, 1) := by decide +kernel
theorem dX11_widthOf_4 : decode cX11_widthOf 4 = .ok (.iload_n 2, 1) := by decide +kernel
theorem dX11_widthOf_5 : decode cX11_widthOf 5 = .ok (.ifCond .le 13, 3) := by decide +kernel
theorem dX11_widthOf_8 : decode cX11_widthOf 8 = .ok (.iinc 1 1, 3) := by decide +kernel
theorem dX11_widthOf_11 : decode cX11_widthOf 11 = .ok (.iload_n 2, 1) := by decide +kernel
theorem dX11_widthOf_12 : decode cX11_widthOf 12 = .ok (.iconst 2, 1) := by decide +kernel
theorem dX11_widthOf_13 : decode cX11_widthOf 13 = .ok (.idiv, 1) := by decide +kernel
theorem dX11_widthOf_14 : decode cX11_widthOf 14 = .ok (.istore_n 2, 1) := by decide +kernel
theorem dX11_widthOf_15 : decode cX11_widthOf 15 = .ok (.goto (-11), 3) := by decide +kernel
theorem dX11_widthOf_18 : decode cX11_widthOf 18 = .ok (.iload_n 1, 1) := by decide +kernel
theorem dX11_widthOf_19 : decode cX11_widthOf 19 = .ok (.ireturn, 1) := by decide +kernel
theorem dX11_width_0 : decode cX11_width 0 = .ok (.iconst 0, 1) := by decide +kernel
theorem dX11_width_1 : decode cX11_width 1 = .ok (.istore 5, 2) := by decide +kernel
theorem dX11_width_3 : decode cX11_width 3 = .ok (.iload_n 2, 1) := by decide +kernel
theorem dX11_width_4 : decode cX11_width 4 = .ok (.istore 6, 2) := by decide +kernel
theorem dX11_width_6 : decode cX11_width 6 = .ok (.iload 6, 2) := by decide +kernel
theorem dX11_width_8 : decode cX11_width 8 = .ok (.iload_n 3, 1) := by decide +kernel
theorem dX11_width_9 : decode cX11_width 9 = .ok (.if_icmp .ge 96, 3) := by decide +kernel
theorem dX11_width_12 : decode cX11_width 12 = .ok (.aload_n 0, 1) := by decide +kernel
theorem dX11_width_13 : decode cX11_width 13 = .ok (.getfield 65, 3) := by decide +kernel
theorem dX11_width_16 : decode cX11_width 16 = .ok (.iload 6, 2) := by decide +kernel
theorem dX11_width_18 : decode cX11_width 18 = .ok (.iaload, 1) := by decide +kernel
theorem dX11_width_19 : decode cX11_width 19 = .ok (.istore 7, 2) := by decide +kernel
theorem dX11_width_21 : decode cX11_width 21 = .ok (.iload 4, 2) := by decide +kernel
theorem dX11_width_23 : decode cX11_width 23 = .ok (.ifCond .ne 34, 3) := by decide +kernel
theorem dX11_width_26 : decode cX11_width 26 = .ok (.iload 5, 2) := by decide +kernel
theorem dX11_width_28 : decode cX11_width 28 = .ok (.iload 6, 2) := by decide +kernel
theorem dX11_width_30 : decode cX11_width 30 = .ok (.ifCond .ne 10, 3) := by decide +kernel
theorem dX11_width_33 : decode cX11_width 33 = .ok (.iload 7, 2) := by decide +kernel
theorem dX11_width_35 : decode cX11_width 35 = .ok (.iconst 1, 1) := by decide +kernel
theorem dX11_width_36 : decode cX11_width 36 = .ok (.iadd, 1) := by decide +kernel
theorem dX11_width_37 : decode cX11_width 37 = .ok (.goto 15, 3) := by decide +kernel
theorem dX11_width_40 : decode cX11_width 40 = .ok (.iload 7, 2) := by decide +kernel
theorem dX11_width_42 : decode cX11_width 42 = .ok (.aload_n 0, 1) := by decide +kernel
theorem dX11_width_43 : decode cX11_width 43 = .ok (.getfield 65, 3) := by decide +kernel
theorem dX11_width_46 : decode cX11_width 46 = .ok (.iload 6, 2) := by decide +kernel
theorem dX11_width_48 : decode cX11_width 48 = .ok (.iconst 1, 1) := by decide +kernel
theorem dX11_width_49 : decode cX11_width 49 = .ok (.isub, 1) := by decide +kernel
theorem dX11_width_50 : decode cX11_width 50 = .ok (.iaload, 1) := by decide +kernel
theorem dX11_width_51 : decode cX11_width 51 = .ok (.isub, 1) := by decide +kernel
theorem dX11_width_52 : decode cX11_width 52 = .ok (.invokestatic 261, 3) := by decide +kernel
theorem dX11_width_55 : decode cX11_width 55 = .ok (.istore 5, 2) := by decide +kernel
theorem dX11_width_57 : decode cX11_width 57 = .ok (.iload 4, 2) := by decide +kernel
theorem dX11_width_59 : decode cX11_width 59 = .ok (.iconst 1, 1) := by decide +kernel
theorem dX11_width_60 : decode cX11_width 60 = .ok (.if_icmp .ne 19, 3) := by decide +kernel
theorem dX11_width_63 : decode cX11_width 63 = .ok (.iload 5, 2) := by decide +kernel
theorem dX11_width_65 : decode cX11_width 65 = .ok (.aload_n 0, 1) := by decide +kernel
theorem dX11_width_66 : decode cX11_width 66 = .ok (.getfield 41, 3) := by decide +kernel
theorem dX11_width_69 : decode cX11_width 69 = .ok (.iload_n 1, 1) := by decide +kernel
theorem dX11_width_70 : decode cX11_width 70 = .ok (.aaload, 1) := by decide +kernel
theorem dX11_width_71 : decode cX11_width 71 = .ok (.iload 7, 2) := by decide +kernel
theorem dX11_width_73 : decode cX11_width 73 = .ok (.iaload, 1) := by decide +kernel
theorem dX11_width_74 : decode cX11_width 74 = .ok (.invokestatic 261, 3) := by decide +kernel
theorem dX11_width_77 : decode cX11_width 77 = .ok (.istore 5, 2) := by decide +kernel
theorem dX11_width_79 : decode cX11_width 79 = .ok (.iload 4, 2) := by decide +kernel
theorem dX11_width_81 : decode cX11_width 81 = .ok (.iconst 2, 1) := by decide +kernel
theorem dX11_width_82 : decode cX11_width 82 = .ok (.if_icmp .ne 17, 3) := by decide +kernel
theorem dX11_width_85 : decode cX11_width 85 = .ok (.iload 5, 2) := by decide +kernel
theorem dX11_width_87 : decode cX11_width 87 = .ok (.aload_n 0, 1) := by decide +kernel
theorem dX11_width_88 : decode cX11_width 88 = .ok (.iload_n 1, 1) := by decide +kernel
theorem dX11_width_89 : decode cX11_width 89 = .ok (.iload 7, 2) := by decide +kernel
theorem dX11_width_91 : decode cX11_width 91 = .ok (.invokevirtual 264, 3) := by decide +kernel
theorem dX11_width_94 : decode cX11_width 94 = .ok (.invokestatic 261, 3) := by decide +kernel
theorem dX11_width_97 : decode cX11_width 97 = .ok (.istore 5, 2) := by decide +kernel
theorem dX11_width_99 : decode cX11_width 99 = .ok (.iinc 6 1, 3) := by decide +kernel
theorem dX11_width_102 : decode cX11_width 102 = .ok (.goto (-96), 3) := by decide +kernel
theorem dX11_width_105 : decode cX11_width 105 = .ok (.iload 5, 2) := by decide +kernel
theorem dX11_width_107 : decode cX11_width 107 = .ok (.invokestatic 267, 3) := by decide +kernel
theorem dX11_width_110 : decode cX11_width 110 = .ok (.ireturn, 1) := by decide +kernel
theorem dX11_positionGap_0 : decode cX11_positionGap 0 = .ok (.iconst 0, 1) := by decide +kernel
theorem dX11_positionGap_1 : decode cX11_positionGap 1 = .ok (.istore_n 3, 1) := by decide +kernel
theorem dX11_positionGap_2 : decode cX11_positionGap 2 = .ok (.iconst (-1), 1) := by decide +kernel
theorem dX11_positionGap_3 : decode cX11_positionGap 3 = .ok (.istore 4, 2) := by decide +kernel
theorem dX11_positionGap_5 : decode cX11_positionGap 5 = .ok (.iconst 0, 1) := by decide +kernel
theorem dX11_positionGap_6 : decode cX11_positionGap 6 = .ok (.istore 5, 2) := by decide +kernel
theorem dX11_positionGap_8 : decode cX11_positionGap 8 = .ok (.iload 5, 2) := by decide +kernel
theorem dX11_positionGap_10 : decode cX11_positionGap 10 = .ok (.aload_n 0, 1) := by decide +kernel
theorem dX11_positionGap_11 : decode cX11_positionGap 11 = .ok (.getfield 28, 3) := by decide +kernel
theorem dX11_positionGap_14 : decode cX11_positionGap 14 = .ok (.iload_n 2, 1) := by decide +kernel
theorem dX11_positionGap_15 : decode cX11_positionGap 15 = .ok (.iaload, 1) := by decide +kernel
theorem dX11_positionGap_16 : decode cX11_positionGap 16 = .ok (.if_icmp .ge 39, 3) := by decide +kernel
theorem dX11_positionGap_19 : decode cX11_positionGap 19 = .ok (.aload_n 0, 1) := by decide +kernel
theorem dX11_positionGap_20 : decode cX11_positionGap 20 = .ok (.getfield 25, 3) := by decide +kernel
theorem dX11_positionGap_23 : decode cX11_positionGap 23 = .ok (.iload_n 2, 1) := by decide +kernel
theorem dX11_positionGap_24 : decode cX11_positionGap 24 = .ok (.aaload, 1) := by decide +kernel
theorem dX11_positionGap_25 : decode cX11_positionGap 25 = .ok (.iload 5, 2) := by decide +kernel
theorem dX11_positionGap_27 : decode cX11_positionGap 27 = .ok (.iaload, 1) := by decide +kernel
theorem dX11_positionGap_28 : decode cX11_positionGap 28 = .ok (.iload_n 1, 1) := by decide +kernel
theorem dX11_positionGap_29 : decode cX11_positionGap 29 = .ok (.if_icmp .eq 6, 3) := by decide +kernel
theorem dX11_positionGap_32 : decode cX11_positionGap 32 = .ok (.goto 17, 3) := by decide +kernel
theorem dX11_positionGap_35 : decode cX11_positionGap 35 = .ok (.iload_n 3, 1) := by decide +kernel
theorem dX11_positionGap_36 : decode cX11_positionGap 36 = .ok (.iload 5, 2) := by decide +kernel
theorem dX11_positionGap_38 : decode cX11_positionGap 38 = .ok (.iload 4, 2) := by decide +kernel
theorem dX11_positionGap_40 : decode cX11_positionGap 40 = .ok (.isub, 1) := by decide +kernel
theorem dX11_positionGap_41 : decode cX11_positionGap 41 = .ok (.invokestatic 261, 3) := by decide +kernel
theorem dX11_positionGap_44 : decode cX11_positionGap 44 = .ok (.istore_n 3, 1) := by decide +kernel
theorem dX11_positionGap_45 : decode cX11_positionGap 45 = .ok (.iload 5, 2) := by decide +kernel
theorem dX11_positionGap_47 : decode cX11_positionGap 47 = .ok (.istore 4, 2) := by decide +kernel
theorem dX11_positionGap_49 : decode cX11_positionGap 49 = .ok (.iinc 5 1, 3) := by decide +kernel
theorem dX11_positionGap_52 : decode cX11_positionGap 52 = .ok (.goto (-44), 3) := by decide +kernel
theorem dX11_positionGap_55 : decode cX11_positionGap 55 = .ok (.iload_n 3, 1) := by decide +kernel
theorem dX11_positionGap_56 : decode cX11_positionGap 56 = .ok (.ireturn, 1) := by decide +kernel
theorem dX11_bitsOfBlock_0 : decode cX11_bitsOfBlock 0 = .ok (.bipush 32, 2) := by decide +kernel
theorem dX11_bitsOfBlock_2 : decode cX11_bitsOfBlock 2 = .ok (.istore 4, 2) := by decide +kernel
theorem dX11_bitsOfBlock_4 : decode cX11_bitsOfBlock 4 = .ok (.aload_n 0, 1) := by decide +kernel
theorem dX11_bitsOfBlock_5 : decode cX11_bitsOfBlock 5 = .ok (.iload_n 1, 1) := by decide +kernel
theorem dX11_bitsOfBlock_6 : decode cX11_bitsOfBlock 6 = .ok (.iload_n 2, 1) := by decide +kernel
theorem dX11_bitsOfBlock_7 : decode cX11_bitsOfBlock 7 = .ok (.iload_n 3, 1) := by decide +kernel
theorem dX11_bitsOfBlock_8 : decode cX11_bitsOfBlock 8 = .ok (.iconst 2, 1) := by decide +kernel
theorem dX11_bitsOfBlock_9 : decode cX11_bitsOfBlock 9 = .ok (.invokevirtual 270, 3) := by decide +kernel
theorem dX11_bitsOfBlock_12 : decode cX11_bitsOfBlock 12 = .ok (.istore 5, 2) := by decide +kernel
theorem dX11_bitsOfBlock_14 : decode cX11_bitsOfBlock 14 = .ok (.aload_n 0, 1) := by decide +kernel
theorem dX11_bitsOfBlock_15 : decode cX11_bitsOfBlock 15 = .ok (.iload_n 1, 1) := by decide +kernel
theorem dX11_bitsOfBlock_16 : decode cX11_bitsOfBlock 16 = .ok (.iload_n 2, 1) := by decide +kernel
theorem dX11_bitsOfBlock_17 : decode cX11_bitsOfBlock 17 = .ok (.iload_n 3, 1) := by decide +kernel
theorem dX11_bitsOfBlock_18 : decode cX11_bitsOfBlock 18 = .ok (.iconst 0, 1) := by decide +kernel
theorem dX11_bitsOfBlock_19 : decode cX11_bitsOfBlock 19 = .ok (.invokevirtual 270, 3) := by decide +kernel
theorem dX11_bitsOfBlock_22 : decode cX11_bitsOfBlock 22 = .ok (.aload_n 0, 1) := by decide +kernel
theorem dX11_bitsOfBlock_23 : decode cX11_bitsOfBlock 23 = .ok (.iload_n 1, 1) := by decide +kernel
theorem dX11_bitsOfBlock_24 : decode cX11_bitsOfBlock 24 = .ok (.iload_n 2, 1) := by decide +kernel
theorem dX11_bitsOfBlock_25 : decode cX11_bitsOfBlock 25 = .ok (.iload_n 3, 1) := by decide +kernel
theorem dX11_bitsOfBlock_26 : decode cX11_bitsOfBlock 26 = .ok (.iconst 1, 1) := by decide +kernel
theorem dX11_bitsOfBlock_27 : decode cX11_bitsOfBlock 27 = .ok (.invokevirtual 270, 3) := by decide +kernel
theorem dX11_bitsOfBlock_30 : decode cX11_bitsOfBlock 30 = .ok (.iadd, 1) := by decide +kernel
theorem dX11_bitsOfBlock_31 : decode cX11_bitsOfBlock 31 = .ok (.istore 6, 2) := by decide +kernel
theorem dX11_bitsOfBlock_33 : decode cX11_bitsOfBlock 33 = .ok (.iload_n 2, 1) := by decide +kernel
theorem dX11_bitsOfBlock_34 : decode cX11_bitsOfBlock 34 = .ok (.istore 7, 2) := by decide +kernel
theorem dX11_bitsOfBlock_36 : decode cX11_bitsOfBlock 36 = .ok (.iload 7, 2) := by decide +kernel
theorem dX11_bitsOfBlock_38 : decode cX11_bitsOfBlock 38 = .ok (.iload_n 3, 1) := by decide +kernel
theorem dX11_bitsOfBlock_39 : decode cX11_bitsOfBlock 39 = .ok (.if_icmp .ge 34, 3) := by decide +kernel
theorem dX11_bitsOfBlock_42 : decode cX11_bitsOfBlock 42 = .ok (.iload 4, 2) := by decide +kernel
theorem dX11_bitsOfBlock_44 : decode cX11_bitsOfBlock 44 = .ok (.iload 6, 2) := by decide +kernel
theorem dX11_bitsOfBlock_46 : decode cX11_bitsOfBlock 46 = .ok (.iload 5, 2) := by decide +kernel
theorem dX11_bitsOfBlock_48 : decode cX11_bitsOfBlock 48 = .ok (.aload_n 0, 1) := by decide +kernel
theorem dX11_bitsOfBlock_49 : decode cX11_bitsOfBlock 49 = .ok (.getfield 41, 3) := by decide +kernel
theorem dX11_bitsOfBlock_52 : decode cX11_bitsOfBlock 52 = .ok (.iload_n 1, 1) := by decide +kernel
theorem dX11_bitsOfBlock_53 : decode cX11_bitsOfBlock 53 = .ok (.aaload, 1) := by decide +kernel
theorem dX11_bitsOfBlock_54 : decode cX11_bitsOfBlock 54 = .ok (.aload_n 0, 1) := by decide +kernel
theorem dX11_bitsOfBlock_55 : decode cX11_bitsOfBlock 55 = .ok (.getfield 65, 3) := by decide +kernel
theorem dX11_bitsOfBlock_58 : decode cX11_bitsOfBlock 58 = .ok (.iload 7, 2) := by decide +kernel
theorem dX11_bitsOfBlock_60 : decode cX11_bitsOfBlock 60 = .ok (.iaload, 1) := by decide +kernel
theorem dX11_bitsOfBlock_61 : decode cX11_bitsOfBlock 61 = .ok (.iaload, 1) := by decide +kernel
theorem dX11_bitsOfBlock_62 : decode cX11_bitsOfBlock 62 = .ok (.imul, 1) := by decide +kernel
theorem dX11_bitsOfBlock_63 : decode cX11_bitsOfBlock 63 = .ok (.iadd, 1) := by decide +kernel
theorem dX11_bitsOfBlock_64 : decode cX11_bitsOfBlock 64 = .ok (.iadd, 1) := by decide +kernel
theorem dX11_bitsOfBlock_65 : decode cX11_bitsOfBlock 65 = .ok (.istore 4, 2) := by decide +kernel
theorem dX11_bitsOfBlock_67 : decode cX11_bitsOfBlock 67 = .ok (.iinc 7 1, 3) := by decide +kernel
theorem dX11_bitsOfBlock_70 : decode cX11_bitsOfBlock 70 = .ok (.goto (-34), 3) := by decide +kernel
theorem dX11_bitsOfBlock_73 : decode cX11_bitsOfBlock 73 = .ok (.iload 4, 2) := by decide +kernel
theorem dX11_bitsOfBlock_75 : decode cX11_bitsOfBlock 75 = .ok (.ireturn, 1) := by decide +kernel
theorem dX11_bitsOf_0 : decode cX11_bitsOf 0 = .ok (.aload_n 0, 1) := by decide +kernel
theorem dX11_bitsOf_1 : decode cX11_bitsOf 1 = .ok (.iload_n 1, 1) := by decide +kernel
theorem dX11_bitsOf_2 : decode cX11_bitsOf 2 = .ok (.invokevirtual 252, 3) := by decide +kernel
theorem dX11_bitsOf_5 : decode cX11_bitsOf 5 = .ok (.iconst 0, 1) := by decide +kernel
theorem dX11_bitsOf_6 : decode cX11_bitsOf 6 = .ok (.istore_n 3, 1) := by decide +kernel
theorem dX11_bitsOf_7 : decode cX11_bitsOf 7 = .ok (.iconst 0, 1) := by decide +kernel
theorem dX11_bitsOf_8 : decode cX11_bitsOf 8 = .ok (.istore 4, 2) := by decide +kernel
theorem dX11_bitsOf_10 : decode cX11_bitsOf 10 = .ok (.iload 4, 2) := by decide +kernel
theorem dX11_bitsOf_12 : decode cX11_bitsOf 12 = .ok (.aload_n 0, 1) := by decide +kernel
theorem dX11_bitsOf_13 : decode cX11_bitsOf 13 = .ok (.getfield 249, 3) := by decide +kernel
theorem dX11_bitsOf_16 : decode cX11_bitsOf 16 = .ok (.if_icmp .ge 33, 3) := by decide +kernel
theorem dX11_bitsOf_19 : decode cX11_bitsOf 19 = .ok (.iload_n 3, 1) := by decide +kernel
theorem dX11_bitsOf_20 : decode cX11_bitsOf 20 = .ok (.aload_n 0, 1) := by decide +kernel
theorem dX11_bitsOf_21 : decode cX11_bitsOf 21 = .ok (.iload_n 1, 1) := by decide +kernel
theorem dX11_bitsOf_22 : decode cX11_bitsOf 22 = .ok (.iload 4, 2) := by decide +kernel
theorem dX11_bitsOf_24 : decode cX11_bitsOf 24 = .ok (.aload_n 0, 1) := by decide +kernel
theorem dX11_bitsOf_25 : decode cX11_bitsOf 25 = .ok (.getfield 249, 3) := by decide +kernel
theorem dX11_bitsOf_28 : decode cX11_bitsOf 28 = .ok (.iload 4, 2) := by decide +kernel
theorem dX11_bitsOf_30 : decode cX11_bitsOf 30 = .ok (.iload_n 2, 1) := by decide +kernel
theorem dX11_bitsOf_31 : decode cX11_bitsOf 31 = .ok (.iadd, 1) := by decide +kernel
theorem dX11_bitsOf_32 : decode cX11_bitsOf 32 = .ok (.invokestatic 236, 3) := by decide +kernel
theorem dX11_bitsOf_35 : decode cX11_bitsOf 35 = .ok (.invokevirtual 274, 3) := by decide +kernel
theorem dX11_bitsOf_38 : decode cX11_bitsOf 38 = .ok (.iadd, 1) := by decide +kernel
theorem dX11_bitsOf_39 : decode cX11_bitsOf 39 = .ok (.istore_n 3, 1) := by decide +kernel
theorem dX11_bitsOf_40 : decode cX11_bitsOf 40 = .ok (.iload 4, 2) := by decide +kernel
theorem dX11_bitsOf_42 : decode cX11_bitsOf 42 = .ok (.iload_n 2, 1) := by decide +kernel
theorem dX11_bitsOf_43 : decode cX11_bitsOf 43 = .ok (.iadd, 1) := by decide +kernel
theorem dX11_bitsOf_44 : decode cX11_bitsOf 44 = .ok (.istore 4, 2) := by decide +kernel
theorem dX11_bitsOf_46 : decode cX11_bitsOf 46 = .ok (.goto (-36), 3) := by decide +kernel
theorem dX11_bitsOf_49 : decode cX11_bitsOf 49 = .ok (.iload_n 3, 1) := by decide +kernel
theorem dX11_bitsOf_50 : decode cX11_bitsOf 50 = .ok (.ireturn, 1) := by decide +kernel
theorem dX11_bitsOfAll_0 : decode cX11_bitsOfAll 0 = .ok (.iconst 0, 1) := by decide +kernel
theorem dX11_bitsOfAll_1 : decode cX11_bitsOfAll 1 = .ok (.istore_n 2, 1) := by decide +kernel
theorem dX11_bitsOfAll_2 : decode cX11_bitsOfAll 2 = .ok (.iconst 0, 1) := by decide +kernel
theorem dX11_bitsOfAll_3 : decode cX11_bitsOfAll 3 = .ok (.istore_n 3, 1) := by decide +kernel
theorem dX11_bitsOfAll_4 : decode cX11_bitsOfAll 4 = .ok (.iload_n 3, 1) := by decide +kernel
theorem dX11_bitsOfAll_5 : decode cX11_bitsOfAll 5 = .ok (.aload_n 0, 1) := by decide +kernel
theorem dX11_bitsOfAll_6 : decode cX11_bitsOfAll 6 = .ok (.getfield 162, 3) := by decide +kernel
theorem dX11_bitsOfAll_9 : decode cX11_bitsOfAll 9 = .ok (.if_icmp .ge 18, 3) := by decide +kernel
theorem dX11_bitsOfAll_12 : decode cX11_bitsOfAll 12 = .ok (.iload_n 2, 1) := by decide +kernel
theorem dX11_bitsOfAll_13 : decode cX11_bitsOfAll 13 = .ok (.aload_n 0, 1) := by decide +kernel
theorem dX11_bitsOfAll_14 : decode cX11_bitsOfAll 14 = .ok (.iload_n 3, 1) := by decide +kernel
theorem dX11_bitsOfAll_15 : decode cX11_bitsOfAll 15 = .ok (.iload_n 1, 1) := by decide +kernel
theorem dX11_bitsOfAll_16 : decode cX11_bitsOfAll 16 = .ok (.invokevirtual 278, 3) := by decide +kernel
theorem dX11_bitsOfAll_19 : decode cX11_bitsOfAll 19 = .ok (.iadd, 1) := by decide +kernel
theorem dX11_bitsOfAll_20 : decode cX11_bitsOfAll 20 = .ok (.istore_n 2, 1) := by decide +kernel
theorem dX11_bitsOfAll_21 : decode cX11_bitsOfAll 21 = .ok (.iinc 3 1, 3) := by decide +kernel
theorem dX11_bitsOfAll_24 : decode cX11_bitsOfAll 24 = .ok (.goto (-20), 3) := by decide +kernel
theorem dX11_bitsOfAll_27 : decode cX11_bitsOfAll 27 = .ok (.iload_n 2, 1) := by decide +kernel
theorem dX11_bitsOfAll_28 : decode cX11_bitsOfAll 28 = .ok (.ireturn, 1) := by decide +kernel
theorem dX11_phrasesIn_0 : decode cX11_phrasesIn 0 = .ok (.iconst 0, 1) := by decide +kernel
theorem dX11_phrasesIn_1 : decode cX11_phrasesIn 1 = .ok (.istore_n 3, 1) := by decide +kernel
theorem dX11_phrasesIn_2 : decode cX11_phrasesIn 2 = .ok (.iconst 0, 1) := by decide +kernel
theorem dX11_phrasesIn_3 : decode cX11_phrasesIn 3 = .ok (.istore 4, 2) := by decide +kernel
theorem dX11_phrasesIn_5 : decode cX11_phrasesIn 5 = .ok (.iload 4, 2) := by decide +kernel
theorem dX11_phrasesIn_7 : decode cX11_phrasesIn 7 = .ok (.aload_n 0, 1) := by decide +kernel
theorem dX11_phrasesIn_8 : decode cX11_phrasesIn 8 = .ok (.getfield 56, 3) := by decide +kernel
theorem dX11_phrasesIn_11 : decode cX11_phrasesIn 11 = .ok (.iload_n 1, 1) := by decide +kernel
theorem dX11_phrasesIn_12 : decode cX11_phrasesIn 12 = .ok (.iaload, 1) := by decide +kernel
theorem dX11_phrasesIn_13 : decode cX11_phrasesIn 13 = .ok (.iadd, 1) := by decide +kernel
theorem dX11_phrasesIn_14 : decode cX11_phrasesIn 14 = .ok (.aload_n 0, 1) := by decide +kernel
theorem dX11_phrasesIn_15 : decode cX11_phrasesIn 15 = .ok (.getfield 28, 3) := by decide +kernel
theorem dX11_phrasesIn_18 : decode cX11_phrasesIn 18 = .ok (.iload_n 2, 1) := by decide +kernel
theorem dX11_phrasesIn_19 : decode cX11_phrasesIn 19 = .ok (.iaload, 1) := by decide +kernel
theorem dX11_phrasesIn_20 : decode cX11_phrasesIn 20 = .ok (.if_icmp .gt 72, 3) := by decide +kernel
theorem dX11_phrasesIn_23 : decode cX11_phrasesIn 23 = .ok (.iconst 0, 1) := by decide +kernel
theorem dX11_phrasesIn_24 : decode cX11_phrasesIn 24 = .ok (.istore 5, 2) := by decide +kernel
theorem dX11_phrasesIn_26 : decode cX11_phrasesIn 26 = .ok (.iload 5, 2) := by decide +kernel
theorem dX11_phrasesIn_28 : decode cX11_phrasesIn 28 = .ok (.aload_n 0, 1) := by decide +kernel
theorem dX11_phrasesIn_29 : decode cX11_phrasesIn 29 = .ok (.getfield 56, 3) := by decide +kernel
theorem dX11_phrasesIn_32 : decode cX11_phrasesIn 32 = .ok (.iload_n 1, 1) := by decide +kernel
theorem dX11_phrasesIn_33 : decode cX11_phrasesIn 33 = .ok (.iaload, 1) := by decide +kernel
theorem dX11_phrasesIn_34 : decode cX11_phrasesIn 34 = .ok (.if_icmp .ge 33, 3) := by decide +kernel
theorem dX11_phrasesIn_37 : decode cX11_phrasesIn 37 = .ok (.aload_n 0, 1) := by decide +kernel
theorem dX11_phrasesIn_38 : decode cX11_phrasesIn 38 = .ok (.getfield 25, 3) := by decide +kernel
theorem dX11_phrasesIn_41 : decode cX11_phrasesIn 41 = .ok (.iload_n 2, 1) := by decide +kernel
theorem dX11_phrasesIn_42 : decode cX11_phrasesIn 42 = .ok (.aaload, 1) := by decide +kernel
theorem dX11_phrasesIn_43 : decode cX11_phrasesIn 43 = .ok (.iload 4, 2) := by decide +kernel
theorem dX11_phrasesIn_45 : decode cX11_phrasesIn 45 = .ok (.iload 5, 2) := by decide +kernel
theorem dX11_phrasesIn_47 : decode cX11_phrasesIn 47 = .ok (.iadd, 1) := by decide +kernel
theorem dX11_phrasesIn_48 : decode cX11_phrasesIn 48 = .ok (.iaload, 1) := by decide +kernel
theorem dX11_phrasesIn_49 : decode cX11_phrasesIn 49 = .ok (.aload_n 0, 1) := by decide +kernel
theorem dX11_phrasesIn_50 : decode cX11_phrasesIn 50 = .ok (.getfield 59, 3) := by decide +kernel
theorem dX11_phrasesIn_53 : decode cX11_phrasesIn 53 = .ok (.iload_n 1, 1) := by decide +kernel
theorem dX11_phrasesIn_54 : decode cX11_phrasesIn 54 = .ok (.aaload, 1) := by decide +kernel
theorem dX11_phrasesIn_55 : decode cX11_phrasesIn 55 = .ok (.iload 5, 2) := by decide +kernel
theorem dX11_phrasesIn_57 : decode cX11_phrasesIn 57 = .ok (.iaload, 1) := by decide +kernel
theorem dX11_phrasesIn_58 : decode cX11_phrasesIn 58 = .ok (.if_icmp .ne 9, 3) := by decide +kernel
theorem dX11_phrasesIn_61 : decode cX11_phrasesIn 61 = .ok (.iinc 5 1, 3) := by decide +kernel
theorem dX11_phrasesIn_64 : decode cX11_phrasesIn 64 = .ok (.goto (-38), 3) := by decide +kernel
theorem dX11_phrasesIn_67 : decode cX11_phrasesIn 67 = .ok (.iload_n 3, 1) := by decide +kernel
theorem dX11_phrasesIn_68 : decode cX11_phrasesIn 68 = .ok (.iload 5, 2) := by decide +kernel
theorem dX11_phrasesIn_70 : decode cX11_phrasesIn 70 = .ok (.aload_n 0, 1) := by decide +kernel
theorem dX11_phrasesIn_71 : decode cX11_phrasesIn 71 = .ok (.getfield 56, 3) := by decide +kernel
theorem dX11_phrasesIn_74 : decode cX11_phrasesIn 74 = .ok (.iload_n 1, 1) := by decide +kernel
theorem dX11_phrasesIn_75 : decode cX11_phrasesIn 75 = .ok (.iaload, 1) := by decide +kernel
theorem dX11_phrasesIn_76 : decode cX11_phrasesIn 76 = .ok (.if_icmp .ne 7, 3) := by decide +kernel
theorem dX11_phrasesIn_79 : decode cX11_phrasesIn 79 = .ok (.iconst 1, 1) := by decide +kernel
theorem dX11_phrasesIn_80 : decode cX11_phrasesIn 80 = .ok (.goto 4, 3) := by decide +kernel
theorem dX11_phrasesIn_83 : decode cX11_phrasesIn 83 = .ok (.iconst 0, 1) := by decide +kernel
theorem dX11_phrasesIn_84 : decode cX11_phrasesIn 84 = .ok (.iadd, 1) := by decide +kernel
theorem dX11_phrasesIn_85 : decode cX11_phrasesIn 85 = .ok (.istore_n 3, 1) := by decide +kernel
theorem dX11_phrasesIn_86 : decode cX11_phrasesIn 86 = .ok (.iinc 4 1, 3) := by decide +kernel
theorem dX11_phrasesIn_89 : decode cX11_phrasesIn 89 = .ok (.goto (-84), 3) := by decide +kernel
theorem dX11_phrasesIn_92 : decode cX11_phrasesIn 92 = .ok (.iload_n 3, 1) := by decide +kernel
theorem dX11_phrasesIn_93 : decode cX11_phrasesIn 93 = .ok (.ireturn, 1) := by decide +kernel
theorem dX11_whyNot_0 : decode cX11_whyNot 0 = .ok (.aload_n 0, 1) := by decide +kernel
theorem dX11_whyNot_1 : decode cX11_whyNot 1 = .ok (.getfield 31, 3) := by decide +kernel
theorem dX11_whyNot_4 : decode cX11_whyNot 4 = .ok (.iload_n 1, 1) := by decide +kernel
theorem dX11_whyNot_5 : decode cX11_whyNot 5 = .ok (.iaload, 1) := by decide +kernel
theorem dX11_whyNot_6 : decode cX11_whyNot 6 = .ok (.iconst 1, 1) := by decide +kernel
theorem dX11_whyNot_7 : decode cX11_whyNot 7 = .ok (.if_icmp .eq 5, 3) := by decide +kernel
theorem dX11_whyNot_10 : decode cX11_whyNot 10 = .ok (.iconst 1, 1) := by decide +kernel
theorem dX11_whyNot_11 : decode cX11_whyNot 11 = .ok (.ireturn, 1) := by decide +kernel
theorem dX11_whyNot_12 : decode cX11_whyNot 12 = .ok (.iconst 0, 1) := by decide +kernel
theorem dX11_whyNot_13 : decode cX11_whyNot 13 = .ok (.istore_n 2, 1) := by decide +kernel
theorem dX11_whyNot_14 : decode cX11_whyNot 14 = .ok (.iconst 0, 1) := by decide +kernel
theorem dX11_whyNot_15 : decode cX11_whyNot 15 = .ok (.istore_n 3, 1) := by decide +kernel
theorem dX11_whyNot_16 : decode cX11_whyNot 16 = .ok (.iload_n 3, 1) := by decide +kernel
theorem dX11_whyNot_17 : decode cX11_whyNot 17 = .ok (.aload_n 0, 1) := by decide +kernel
theorem dX11_whyNot_18 : decode cX11_whyNot 18 = .ok (.getfield 211, 3) := by decide +kernel
theorem dX11_whyNot_21 : decode cX11_whyNot 21 = .ok (.if_icmp .ge 41, 3) := by decide +kernel
theorem dX11_whyNot_24 : decode cX11_whyNot 24 = .ok (.iload_n 2, 1) := by decide +kernel
theorem dX11_whyNot_25 : decode cX11_whyNot 25 = .ok (.iload_n 3, 1) := by decide +kernel
theorem dX11_whyNot_26 : decode cX11_whyNot 26 = .ok (.aload_n 0, 1) := by decide +kernel
theorem dX11_whyNot_27 : decode cX11_whyNot 27 = .ok (.getfield 68, 3) := by decide +kernel
theorem dX11_whyNot_30 : decode cX11_whyNot 30 = .ok (.if_icmp .eq 23, 3) := by decide +kernel
theorem dX11_whyNot_33 : decode cX11_whyNot 33 = .ok (.aload_n 0, 1) := by decide +kernel
theorem dX11_whyNot_34 : decode cX11_whyNot 34 = .ok (.getfield 41, 3) := by decide +kernel
theorem dX11_whyNot_37 : decode cX11_whyNot 37 = .ok (.aload_n 0, 1) := by decide +kernel
theorem dX11_whyNot_38 : decode cX11_whyNot 38 = .ok (.getfield 44, 3) := by decide +kernel
theorem dX11_whyNot_41 : decode cX11_whyNot 41 = .ok (.iload_n 3, 1) := by decide +kernel
theorem dX11_whyNot_42 : decode cX11_whyNot 42 = .ok (.iaload, 1) := by decide +kernel
theorem dX11_whyNot_43 : decode cX11_whyNot 43 = .ok (.aaload, 1) := by decide +kernel
theorem dX11_whyNot_44 : decode cX11_whyNot 44 = .ok (.iload_n 1, 1) := by decide +kernel
theorem dX11_whyNot_45 : decode cX11_whyNot 45 = .ok (.iaload, 1) := by decide +kernel
