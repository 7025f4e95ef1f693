theorem dX5_mean_54 : decode cX5_mean 54 = .ok (.getfield 78, 3) := by decide +kernel
theorem dX5_mean_57 : decode cX5_mean 57 = .ok (.i2d, 1) := by decide +kernel
theorem dX5_mean_58 : decode cX5_mean 58 = .ok (.ddiv, 1) := by decide +kernel
theorem dX5_mean_59 : decode cX5_mean 59 = .ok (.dreturn, 1) := by decide +kernel
theorem dX5_digest_0 : decode cX5_digest 0 = .ok (.ldc2_w 165, 3) := by decide +kernel
theorem dX5_digest_3 : decode cX5_digest 3 = .ok (.lstore_n 1, 1) := by decide +kernel
theorem dX5_digest_4 : decode cX5_digest 4 = .ok (.iconst 0, 1) := by decide +kernel
theorem dX5_digest_5 : decode cX5_digest 5 = .ok (.istore_n 3, 1) := by decide +kernel
theorem dX5_digest_6 : decode cX5_digest 6 = .ok (.iload_n 3, 1) := by decide +kernel
theorem dX5_digest_7 : decode cX5_digest 7 = .ok (.bipush 9, 2) := by decide +kernel
theorem dX5_digest_9 : decode cX5_digest 9 = .ok (.if_icmp .ge 25, 3) := by decide +kernel
theorem dX5_digest_12 : decode cX5_digest 12 = .ok (.lload_n 1, 1) := by decide +kernel
theorem dX5_digest_13 : decode cX5_digest 13 = .ok (.ldc2_w 167, 3) := by decide +kernel
theorem dX5_digest_16 : decode cX5_digest 16 = .ok (.lmul, 1) := by decide +kernel
theorem dX5_digest_17 : decode cX5_digest 17 = .ok (.aload_n 0, 1) := by decide +kernel
theorem dX5_digest_18 : decode cX5_digest 18 = .ok (.getfield 12, 3) := by decide +kernel
theorem dX5_digest_21 : decode cX5_digest 21 = .ok (.iload_n 3, 1) := by decide +kernel
theorem dX5_digest_22 : decode cX5_digest 22 = .ok (.invokevirtual 144, 3) := by decide +kernel
theorem dX5_digest_25 : decode cX5_digest 25 = .ok (.i2l, 1) := by decide +kernel
theorem dX5_digest_26 : decode cX5_digest 26 = .ok (.ladd, 1) := by decide +kernel
theorem dX5_digest_27 : decode cX5_digest 27 = .ok (.lstore_n 1, 1) := by decide +kernel
theorem dX5_digest_28 : decode cX5_digest 28 = .ok (.iinc 3 1, 3) := by decide +kernel
theorem dX5_digest_31 : decode cX5_digest 31 = .ok (.goto (-25), 3) := by decide +kernel
theorem dX5_digest_34 : decode cX5_digest 34 = .ok (.iconst 0, 1) := by decide +kernel
theorem dX5_digest_35 : decode cX5_digest 35 = .ok (.istore_n 3, 1) := by decide +kernel
theorem dX5_digest_36 : decode cX5_digest 36 = .ok (.iload_n 3, 1) := by decide +kernel
theorem dX5_digest_37 : decode cX5_digest 37 = .ok (.iconst 4, 1) := by decide +kernel
theorem dX5_digest_38 : decode cX5_digest 38 = .ok (.if_icmp .ge 16, 3) := by decide +kernel
theorem dX5_digest_41 : decode cX5_digest 41 = .ok (.aload_n 0, 1) := by decide +kernel
theorem dX5_digest_42 : decode cX5_digest 42 = .ok (.lload_n 1, 1) := by decide +kernel
theorem dX5_digest_43 : decode cX5_digest 43 = .ok (.iload_n 3, 1) := by decide +kernel
theorem dX5_digest_44 : decode cX5_digest 44 = .ok (.invokevirtual 169, 3) := by decide +kernel
theorem dX5_digest_47 : decode cX5_digest 47 = .ok (.lstore_n 1, 1) := by decide +kernel
theorem dX5_digest_48 : decode cX5_digest 48 = .ok (.iinc 3 1, 3) := by decide +kernel
theorem dX5_digest_51 : decode cX5_digest 51 = .ok (.goto (-15), 3) := by decide +kernel
theorem dX5_digest_54 : decode cX5_digest 54 = .ok (.iconst 0, 1) := by decide +kernel
theorem dX5_digest_55 : decode cX5_digest 55 = .ok (.istore_n 3, 1) := by decide +kernel
theorem dX5_digest_56 : decode cX5_digest 56 = .ok (.iload_n 3, 1) := by decide +kernel
theorem dX5_digest_57 : decode cX5_digest 57 = .ok (.aload_n 0, 1) := by decide +kernel
theorem dX5_digest_58 : decode cX5_digest 58 = .ok (.getfield 12, 3) := by decide +kernel
theorem dX5_digest_61 : decode cX5_digest 61 = .ok (.getfield 78, 3) := by decide +kernel
theorem dX5_digest_64 : decode cX5_digest 64 = .ok (.if_icmp .ge 23, 3) := by decide +kernel
theorem dX5_digest_67 : decode cX5_digest 67 = .ok (.lload_n 1, 1) := by decide +kernel
theorem dX5_digest_68 : decode cX5_digest 68 = .ok (.aload_n 0, 1) := by decide +kernel
theorem dX5_digest_69 : decode cX5_digest 69 = .ok (.getfield 12, 3) := by decide +kernel
theorem dX5_digest_72 : decode cX5_digest 72 = .ok (.getfield 86, 3) := by decide +kernel
theorem dX5_digest_75 : decode cX5_digest 75 = .ok (.iload_n 3, 1) := by decide +kernel
theorem dX5_digest_76 : decode cX5_digest 76 = .ok (.aaload, 1) := by decide +kernel
theorem dX5_digest_77 : decode cX5_digest 77 = .ok (.invokestatic 173, 3) := by decide +kernel
theorem dX5_digest_80 : decode cX5_digest 80 = .ok (.lstore_n 1, 1) := by decide +kernel
theorem dX5_digest_81 : decode cX5_digest 81 = .ok (.iinc 3 1, 3) := by decide +kernel
theorem dX5_digest_84 : decode cX5_digest 84 = .ok (.goto (-28), 3) := by decide +kernel
theorem dX5_digest_87 : decode cX5_digest 87 = .ok (.iconst 0, 1) := by decide +kernel
theorem dX5_digest_88 : decode cX5_digest 88 = .ok (.istore_n 3, 1) := by decide +kernel
theorem dX5_digest_89 : decode cX5_digest 89 = .ok (.iload_n 3, 1) := by decide +kernel
theorem dX5_digest_90 : decode cX5_digest 90 = .ok (.aload_n 0, 1) := by decide +kernel
theorem dX5_digest_91 : decode cX5_digest 91 = .ok (.getfield 12, 3) := by decide +kernel
theorem dX5_digest_94 : decode cX5_digest 94 = .ok (.getfield 110, 3) := by decide +kernel
theorem dX5_digest_97 : decode cX5_digest 97 = .ok (.if_icmp .ge 23, 3) := by decide +kernel
theorem dX5_digest_100 : decode cX5_digest 100 = .ok (.lload_n 1, 1) := by decide +kernel
theorem dX5_digest_101 : decode cX5_digest 101 = .ok (.aload_n 0, 1) := by decide +kernel
theorem dX5_digest_102 : decode cX5_digest 102 = .ok (.getfield 12, 3) := by decide +kernel
theorem dX5_digest_105 : decode cX5_digest 105 = .ok (.getfield 119, 3) := by decide +kernel
theorem dX5_digest_108 : decode cX5_digest 108 = .ok (.iload_n 3, 1) := by decide +kernel
theorem dX5_digest_109 : decode cX5_digest 109 = .ok (.aaload, 1) := by decide +kernel
theorem dX5_digest_110 : decode cX5_digest 110 = .ok (.invokestatic 177, 3) := by decide +kernel
theorem dX5_digest_113 : decode cX5_digest 113 = .ok (.lstore_n 1, 1) := by decide +kernel
theorem dX5_digest_114 : decode cX5_digest 114 = .ok (.iinc 3 1, 3) := by decide +kernel
theorem dX5_digest_117 : decode cX5_digest 117 = .ok (.goto (-28), 3) := by decide +kernel
theorem dX5_digest_120 : decode cX5_digest 120 = .ok (.lload_n 1, 1) := by decide +kernel
theorem dX5_digest_121 : decode cX5_digest 121 = .ok (.lreturn, 1) := by decide +kernel
theorem dX5_withBell_0 : decode cX5_withBell 0 = .ok (.lload_n 1, 1) := by decide +kernel
theorem dX5_withBell_1 : decode cX5_withBell 1 = .ok (.lstore 4, 2) := by decide +kernel
theorem dX5_withBell_3 : decode cX5_withBell 3 = .ok (.iconst 0, 1) := by decide +kernel
theorem dX5_withBell_4 : decode cX5_withBell 4 = .ok (.istore 6, 2) := by decide +kernel
theorem dX5_withBell_6 : decode cX5_withBell 6 = .ok (.iload 6, 2) := by decide +kernel
theorem dX5_withBell_8 : decode cX5_withBell 8 = .ok (.bipush 9, 2) := by decide +kernel
theorem dX5_withBell_10 : decode cX5_withBell 10 = .ok (.if_icmp .ge 29, 3) := by decide +kernel
theorem dX5_withBell_13 : decode cX5_withBell 13 = .ok (.lload 4, 2) := by decide +kernel
theorem dX5_withBell_15 : decode cX5_withBell 15 = .ok (.ldc2_w 167, 3) := by decide +kernel
theorem dX5_withBell_18 : decode cX5_withBell 18 = .ok (.lmul, 1) := by decide +kernel
theorem dX5_withBell_19 : decode cX5_withBell 19 = .ok (.aload_n 0, 1) := by decide +kernel
theorem dX5_withBell_20 : decode cX5_withBell 20 = .ok (.getfield 12, 3) := by decide +kernel
theorem dX5_withBell_23 : decode cX5_withBell 23 = .ok (.iload_n 3, 1) := by decide +kernel
theorem dX5_withBell_24 : decode cX5_withBell 24 = .ok (.iload 6, 2) := by decide +kernel
theorem dX5_withBell_26 : decode cX5_withBell 26 = .ok (.invokevirtual 75, 3) := by decide +kernel
theorem dX5_withBell_29 : decode cX5_withBell 29 = .ok (.i2l, 1) := by decide +kernel
theorem dX5_withBell_30 : decode cX5_withBell 30 = .ok (.ladd, 1) := by decide +kernel
theorem dX5_withBell_31 : decode cX5_withBell 31 = .ok (.lstore 4, 2) := by decide +kernel
theorem dX5_withBell_33 : decode cX5_withBell 33 = .ok (.iinc 6 1, 3) := by decide +kernel
theorem dX5_withBell_36 : decode cX5_withBell 36 = .ok (.goto (-30), 3) := by decide +kernel
theorem dX5_withBell_39 : decode cX5_withBell 39 = .ok (.iconst 0, 1) := by decide +kernel
theorem dX5_withBell_40 : decode cX5_withBell 40 = .ok (.istore 6, 2) := by decide +kernel
theorem dX5_withBell_42 : decode cX5_withBell 42 = .ok (.iload 6, 2) := by decide +kernel
theorem dX5_withBell_44 : decode cX5_withBell 44 = .ok (.iconst 2, 1) := by decide +kernel
theorem dX5_withBell_45 : decode cX5_withBell 45 = .ok (.if_icmp .ge 33, 3) := by decide +kernel
theorem dX5_withBell_48 : decode cX5_withBell 48 = .ok (.lload 4, 2) := by decide +kernel
theorem dX5_withBell_50 : decode cX5_withBell 50 = .ok (.ldc2_w 167, 3) := by decide +kernel
theorem dX5_withBell_53 : decode cX5_withBell 53 = .ok (.lmul, 1) := by decide +kernel
theorem dX5_withBell_54 : decode cX5_withBell 54 = .ok (.aload_n 0, 1) := by decide +kernel
theorem dX5_withBell_55 : decode cX5_withBell 55 = .ok (.getfield 12, 3) := by decide +kernel
theorem dX5_withBell_58 : decode cX5_withBell 58 = .ok (.getfield 29, 3) := by decide +kernel
theorem dX5_withBell_61 : decode cX5_withBell 61 = .ok (.iload_n 3, 1) := by decide +kernel
theorem dX5_withBell_62 : decode cX5_withBell 62 = .ok (.aaload, 1) := by decide +kernel
theorem dX5_withBell_63 : decode cX5_withBell 63 = .ok (.iload 6, 2) := by decide +kernel
theorem dX5_withBell_65 : decode cX5_withBell 65 = .ok (.invokevirtual 71, 3) := by decide +kernel
theorem dX5_withBell_68 : decode cX5_withBell 68 = .ok (.i2l, 1) := by decide +kernel
theorem dX5_withBell_69 : decode cX5_withBell 69 = .ok (.ladd, 1) := by decide +kernel
theorem dX5_withBell_70 : decode cX5_withBell 70 = .ok (.lstore 4, 2) := by decide +kernel
theorem dX5_withBell_72 : decode cX5_withBell 72 = .ok (.iinc 6 1, 3) := by decide +kernel
theorem dX5_withBell_75 : decode cX5_withBell 75 = .ok (.goto (-33), 3) := by decide +kernel
theorem dX5_withBell_78 : decode cX5_withBell 78 = .ok (.lload 4, 2) := by decide +kernel
theorem dX5_withBell_80 : decode cX5_withBell 80 = .ok (.lreturn, 1) := by decide +kernel
theorem dX5_withRinger_0 : decode cX5_withRinger 0 = .ok (.lload_n 0, 1) := by decide +kernel
theorem dX5_withRinger_1 : decode cX5_withRinger 1 = .ok (.lstore_n 3, 1) := by decide +kernel
theorem dX5_withRinger_2 : decode cX5_withRinger 2 = .ok (.iconst 0, 1) := by decide +kernel
theorem dX5_withRinger_3 : decode cX5_withRinger 3 = .ok (.istore 5, 2) := by decide +kernel
theorem dX5_withRinger_5 : decode cX5_withRinger 5 = .ok (.iload 5, 2) := by decide +kernel
theorem dX5_withRinger_7 : decode cX5_withRinger 7 = .ok (.iconst 5, 1) := by decide +kernel
theorem dX5_withRinger_8 : decode cX5_withRinger 8 = .ok (.if_icmp .ge 23, 3) := by decide +kernel
theorem dX5_withRinger_11 : decode cX5_withRinger 11 = .ok (.lload_n 3, 1) := by decide +kernel
theorem dX5_withRinger_12 : decode cX5_withRinger 12 = .ok (.ldc2_w 167, 3) := by decide +kernel
theorem dX5_withRinger_15 : decode cX5_withRinger 15 = .ok (.lmul, 1) := by decide +kernel
theorem dX5_withRinger_16 : decode cX5_withRinger 16 = .ok (.aload_n 2, 1) := by decide +kernel
theorem dX5_withRinger_17 : decode cX5_withRinger 17 = .ok (.iload 5, 2) := by decide +kernel
theorem dX5_withRinger_19 : decode cX5_withRinger 19 = .ok (.invokevirtual 104, 3) := by decide +kernel
theorem dX5_withRinger_22 : decode cX5_withRinger 22 = .ok (.i2l, 1) := by decide +kernel
theorem dX5_withRinger_23 : decode cX5_withRinger 23 = .ok (.ladd, 1) := by decide +kernel
theorem dX5_withRinger_24 : decode cX5_withRinger 24 = .ok (.lstore_n 3, 1) := by decide +kernel
theorem dX5_withRinger_25 : decode cX5_withRinger 25 = .ok (.iinc 5 1, 3) := by decide +kernel
theorem dX5_withRinger_28 : decode cX5_withRinger 28 = .ok (.goto (-23), 3) := by decide +kernel
theorem dX5_withRinger_31 : decode cX5_withRinger 31 = .ok (.lload_n 3, 1) := by decide +kernel
theorem dX5_withRinger_32 : decode cX5_withRinger 32 = .ok (.lreturn, 1) := by decide +kernel
theorem dX5_withToll_0 : decode cX5_withToll 0 = .ok (.lload_n 0, 1) := by decide +kernel
theorem dX5_withToll_1 : decode cX5_withToll 1 = .ok (.lstore_n 3, 1) := by decide +kernel
theorem dX5_withToll_2 : decode cX5_withToll 2 = .ok (.iconst 0, 1) := by decide +kernel
theorem dX5_withToll_3 : decode cX5_withToll 3 = .ok (.istore 5, 2) := by decide +kernel
theorem dX5_withToll_5 : decode cX5_withToll 5 = .ok (.iload 5, 2) := by decide +kernel
theorem dX5_withToll_7 : decode cX5_withToll 7 = .ok (.bipush 9, 2) := by decide +kernel
theorem dX5_withToll_9 : decode cX5_withToll 9 = .ok (.if_icmp .ge 23, 3) := by decide +kernel
theorem dX5_withToll_12 : decode cX5_withToll 12 = .ok (.lload_n 3, 1) := by decide +kernel
theorem dX5_withToll_13 : decode cX5_withToll 13 = .ok (.ldc2_w 167, 3) := by decide +kernel
theorem dX5_withToll_16 : decode cX5_withToll 16 = .ok (.lmul, 1) := by decide +kernel
theorem dX5_withToll_17 : decode cX5_withToll 17 = .ok (.aload_n 2, 1) := by decide +kernel
theorem dX5_withToll_18 : decode cX5_withToll 18 = .ok (.iload 5, 2) := by decide +kernel
theorem dX5_withToll_20 : decode cX5_withToll 20 = .ok (.invokevirtual 140, 3) := by decide +kernel
theorem dX5_withToll_23 : decode cX5_withToll 23 = .ok (.i2l, 1) := by decide +kernel
theorem dX5_withToll_24 : decode cX5_withToll 24 = .ok (.ladd, 1) := by decide +kernel
theorem dX5_withToll_25 : decode cX5_withToll 25 = .ok (.lstore_n 3, 1) := by decide +kernel
theorem dX5_withToll_26 : decode cX5_withToll 26 = .ok (.iinc 5 1, 3) := by decide +kernel
theorem dX5_withToll_29 : decode cX5_withToll 29 = .ok (.goto (-24), 3) := by decide +kernel
theorem dX5_withToll_32 : decode cX5_withToll 32 = .ok (.bipush 10, 2) := by decide +kernel
theorem dX5_withToll_34 : decode cX5_withToll 34 = .ok (.istore 5, 2) := by decide +kernel
theorem dX5_withToll_36 : decode cX5_withToll 36 = .ok (.iload 5, 2) := by decide +kernel
theorem dX5_withToll_38 : decode cX5_withToll 38 = .ok (.bipush 90, 2) := by decide +kernel
theorem dX5_withToll_40 : decode cX5_withToll 40 = .ok (.if_icmp .gt 23, 3) := by decide +kernel
theorem dX5_withToll_43 : decode cX5_withToll 43 = .ok (.lload_n 3, 1) := by decide +kernel
theorem dX5_withToll_44 : decode cX5_withToll 44 = .ok (.ldc2_w 167, 3) := by decide +kernel
theorem dX5_withToll_47 : decode cX5_withToll 47 = .ok (.lmul, 1) := by decide +kernel
theorem dX5_withToll_48 : decode cX5_withToll 48 = .ok (.aload_n 2, 1) := by decide +kernel
theorem dX5_withToll_49 : decode cX5_withToll 49 = .ok (.iload 5, 2) := by decide +kernel
theorem dX5_withToll_51 : decode cX5_withToll 51 = .ok (.invokevirtual 141, 3) := by decide +kernel
theorem dX5_withToll_54 : decode cX5_withToll 54 = .ok (.i2l, 1) := by decide +kernel
theorem dX5_withToll_55 : decode cX5_withToll 55 = .ok (.ladd, 1) := by decide +kernel
theorem dX5_withToll_56 : decode cX5_withToll 56 = .ok (.lstore_n 3, 1) := by decide +kernel
theorem dX5_withToll_57 : decode cX5_withToll 57 = .ok (.iinc 5 10, 3) := by decide +kernel
theorem dX5_withToll_60 : decode cX5_withToll 60 = .ok (.goto (-24), 3) := by decide +kernel
theorem dX5_withToll_63 : decode cX5_withToll 63 = .ok (.lload_n 3, 1) := by decide +kernel
theorem dX5_withToll_64 : decode cX5_withToll 64 = .ok (.lreturn, 1) := by decide +kernel
theorem dX5_needBell_0 : decode cX5_needBell 0 = .ok (.iload_n 0, 1) := by decide +kernel
theorem dX5_needBell_1 : decode cX5_needBell 1 = .ok (.iconst 4, 1) := by decide +kernel
theorem dX5_needBell_2 : decode cX5_needBell 2 = .ok (.invokestatic 39, 3) := by decide +kernel
theorem dX5_needBell_5 : decode cX5_needBell 5 = .ok (.return_, 1) := by decide +kernel
theorem dX5_needTollOfSuch_0 : decode cX5_needTollOfSuch 0 = .ok (.iload_n 0, 1) := by decide +kernel
theorem dX5_needTollOfSuch_1 : decode cX5_needTollOfSuch 1 = .ok (.iconst 0, 1) := by decide +kernel
theorem dX5_needTollOfSuch_2 : decode cX5_needTollOfSuch 2 = .ok (.iconst 2, 1) := by decide +kernel
theorem dX5_needTollOfSuch_3 : decode cX5_needTollOfSuch 3 = .ok (.invokestatic 25, 3) := by decide +kernel
theorem dX5_needTollOfSuch_6 : decode cX5_needTollOfSuch 6 = .ok (.iload_n 1, 1) := by decide +kernel
theorem dX5_needTollOfSuch_7 : decode cX5_needTollOfSuch 7 = .ok (.iconst 0, 1) := by decide +kernel
theorem dX5_needTollOfSuch_8 : decode cX5_needTollOfSuch 8 = .ok (.bipush 120, 2) := by decide +kernel
theorem dX5_needTollOfSuch_10 : decode cX5_needTollOfSuch 10 = .ok (.invokestatic 25, 3) := by decide +kernel
theorem dX5_needTollOfSuch_13 : decode cX5_needTollOfSuch 13 = .ok (.iload_n 2, 1) := by decide +kernel
theorem dX5_needTollOfSuch_14 : decode cX5_needTollOfSuch 14 = .ok (.iconst 1, 1) := by decide +kernel
theorem dX5_needTollOfSuch_15 : decode cX5_needTollOfSuch 15 = .ok (.iconst 5, 1) := by decide +kernel
theorem dX5_needTollOfSuch_16 : decode cX5_needTollOfSuch 16 = .ok (.invokestatic 25, 3) := by decide +kernel
theorem dX5_needTollOfSuch_19 : decode cX5_needTollOfSuch 19 = .ok (.return_, 1) := by decide +kernel
theorem dX5_needIndex_0 : decode cX5_needIndex 0 = .ok (.iload_n 0, 1) := by decide +kernel
theorem dX5_needIndex_1 : decode cX5_needIndex 1 = .ok (.ifCond .lt 8, 3) := by decide +kernel
theorem dX5_needIndex_4 : decode cX5_needIndex 4 = .ok (.iload_n 0, 1) := by decide +kernel
theorem dX5_needIndex_5 : decode cX5_needIndex 5 = .ok (.iload_n 1, 1) := by decide +kernel
theorem dX5_needIndex_6 : decode cX5_needIndex 6 = .ok (.if_icmp .lt 13, 3) := by decide +kernel
theorem dX5_needIndex_9 : decode cX5_needIndex 9 = .ok (.new 157, 3) := by decide +kernel
theorem dX5_needIndex_12 : decode cX5_needIndex 12 = .ok (.dup, 1) := by decide +kernel
theorem dX5_needIndex_13 : decode cX5_needIndex 13 = .ok (.ldc 181, 2) := by decide +kernel
theorem dX5_needIndex_15 : decode cX5_needIndex 15 = .ok (.invokespecial 161, 3) := by decide +kernel
theorem dX5_needIndex_18 : decode cX5_needIndex 18 = .ok (.athrow, 1) := by decide +kernel
theorem dX5_needIndex_19 : decode cX5_needIndex 19 = .ok (.return_, 1) := by decide +kernel
theorem dX5_needBetween_0 : decode cX5_needBetween 0 = .ok (.iload_n 0, 1) := by decide +kernel
theorem dX5_needBetween_1 : decode cX5_needBetween 1 = .ok (.iload_n 1, 1) := by decide +kernel
theorem dX5_needBetween_2 : decode cX5_needBetween 2 = .ok (.if_icmp .lt 8, 3) := by decide +kernel
theorem dX5_needBetween_5 : decode cX5_needBetween 5 = .ok (.iload_n 0, 1) := by decide +kernel
theorem dX5_needBetween_6 : decode cX5_needBetween 6 = .ok (.iload_n 2, 1) := by decide +kernel
theorem dX5_needBetween_7 : decode cX5_needBetween 7 = .ok (.if_icmp .le 13, 3) := by decide +kernel
theorem dX5_needBetween_10 : decode cX5_needBetween 10 = .ok (.new 183, 3) := by decide +kernel
theorem dX5_needBetween_13 : decode cX5_needBetween 13 = .ok (.dup, 1) := by decide +kernel
theorem dX5_needBetween_14 : decode cX5_needBetween 14 = .ok (.ldc 185, 2) := by decide +kernel
theorem dX5_needBetween_16 : decode cX5_needBetween 16 = .ok (.invokespecial 187, 3) := by decide +kernel
theorem dX5_needBetween_19 : decode cX5_needBetween 19 = .ok (.athrow, 1) := by decide +kernel
theorem dX5_needBetween_20 : decode cX5_needBetween 20 = .ok (.return_, 1) := by decide +kernel
theorem dX6_init_0 : decode cX6_init 0 = .ok (.aload_n 0, 1) := by decide +kernel
theorem dX6_init_1 : decode cX6_init 1 = .ok (.aload_n 1, 1) := by decide +kernel
theorem dX6_init_2 : decode cX6_init 2 = .ok (.putfield 3, 3) := by decide +kernel
theorem dX6_init_5 : decode cX6_init 5 = .ok (.aload_n 0, 1) := by decide +kernel
theorem dX6_init_6 : decode cX6_init 6 = .ok (.invokespecial 9, 3) := by decide +kernel
theorem dX6_init_9 : decode cX6_init 9 = .ok (.aload_n 0, 1) := by decide +kernel
theorem dX6_init_10 : decode cX6_init 10 = .ok (.bipush 20, 2) := by decide +kernel
theorem dX6_init_12 : decode cX6_init 12 = .ok (.putfield 15, 3) := by decide +kernel
theorem dX6_init_15 : decode cX6_init 15 = .ok (.aload_n 0, 1) := by decide +kernel
theorem dX6_init_16 : decode cX6_init 16 = .ok (.iconst 4, 1) := by decide +kernel
theorem dX6_init_17 : decode cX6_init 17 = .ok (.newarray .int, 2) := by decide +kernel
theorem dX6_init_19 : decode cX6_init 19 = .ok (.putfield 19, 3) := by decide +kernel
theorem dX6_init_22 : decode cX6_init 22 = .ok (.aload_n 0, 1) := by decide +kernel
theorem dX6_init_23 : decode cX6_init 23 = .ok (.bipush 8, 2) := by decide +kernel
theorem dX6_init_25 : decode cX6_init 25 = .ok (.newarray .int, 2) := by decide +kernel
theorem dX6_init_27 : decode cX6_init 27 = .ok (.putfield 23, 3) := by decide +kernel
theorem dX6_init_30 : decode cX6_init 30 = .ok (.aload_n 0, 1) := by decide +kernel
theorem dX6_init_31 : decode cX6_init 31 = .ok (.bipush 8, 2) := by decide +kernel
theorem dX6_init_33 : decode cX6_init 33 = .ok (.newarray .int, 2) := by decide +kernel
theorem dX6_init_35 : decode cX6_init 35 = .ok (.putfield 26, 3) := by decide +kernel
theorem dX6_init_38 : decode cX6_init 38 = .ok (.aload_n 0, 1) := by decide +kernel
theorem dX6_init_39 : decode cX6_init 39 = .ok (.iconst 4, 1) := by decide +kernel
theorem dX6_init_40 : decode cX6_init 40 = .ok (.newarray .int, 2) := by decide +kernel
theorem dX6_init_42 : decode cX6_init 42 = .ok (.putfield 29, 3) := by decide +kernel
theorem dX6_init_45 : decode cX6_init 45 = .ok (.aload_n 0, 1) := by decide +kernel
theorem dX6_init_46 : decode cX6_init 46 = .ok (.iconst 4, 1) := by decide +kernel
theorem dX6_init_47 : decode cX6_init 47 = .ok (.newarray .int, 2) := by decide +kernel
theorem dX6_init_49 : decode cX6_init 49 = .ok (.putfield 32, 3) := by decide +kernel
theorem dX6_init_52 : decode cX6_init 52 = .ok (.aload_n 0, 1) := by decide +kernel
theorem dX6_init_53 : decode cX6_init 53 = .ok (.iconst 4, 1) := by decide +kernel
theorem dX6_init_54 : decode cX6_init 54 = .ok (.newarray .int, 2) := by decide +kernel
theorem dX6_init_56 : decode cX6_init 56 = .ok (.putfield 35, 3) := by decide +kernel
theorem dX6_init_59 : decode cX6_init 59 = .ok (.aload_n 0, 1) := by decide +kernel
theorem dX6_init_60 : decode cX6_init 60 = .ok (.iconst 4, 1) := by decide +kernel
theorem dX6_init_61 : decode cX6_init 61 = .ok (.newarray .int, 2) := by decide +kernel
theorem dX6_init_63 : decode cX6_init 63 = .ok (.putfield 38, 3) := by decide +kernel
theorem dX6_init_66 : decode cX6_init 66 = .ok (.aload_n 0, 1) := by decide +kernel
theorem dX6_init_67 : decode cX6_init 67 = .ok (.bipush 12, 2) := by decide +kernel
theorem dX6_init_69 : decode cX6_init 69 = .ok (.newarray .int, 2) := by decide +kernel
theorem dX6_init_71 : decode cX6_init 71 = .ok (.putfield 41, 3) := by decide +kernel
theorem dX6_init_74 : decode cX6_init 74 = .ok (.aload_n 0, 1) := by decide +kernel
theorem dX6_init_75 : decode cX6_init 75 = .ok (.bipush 12, 2) := by decide +kernel
theorem dX6_init_77 : decode cX6_init 77 = .ok (.newarray .int, 2) := by decide +kernel
theorem dX6_init_79 : decode cX6_init 79 = .ok (.putfield 44, 3) := by decide +kernel
theorem dX6_init_82 : decode cX6_init 82 = .ok (.aload_n 0, 1) := by decide +kernel
theorem dX6_init_83 : decode cX6_init 83 = .ok (.bipush 12, 2) := by decide +kernel
theorem dX6_init_85 : decode cX6_init 85 = .ok (.newarray .int, 2) := by decide +kernel
theorem dX6_init_87 : decode cX6_init 87 = .ok (.putfield 47, 3) := by decide +kernel
theorem dX6_init_90 : decode cX6_init 90 = .ok (.aload_n 0, 1) := by decide +kernel
theorem dX6_init_91 : decode cX6_init 91 = .ok (.bipush 21, 2) := by decide +kernel
theorem dX6_init_93 : decode cX6_init 93 = .ok (.newarray .int, 2) := by decide +kernel
theorem dX6_init_95 : decode cX6_init 95 = .ok (.putfield 50, 3) := by decide +kernel
theorem dX6_init_98 : decode cX6_init 98 = .ok (.aload_n 0, 1) := by decide +kernel
theorem dX6_init_99 : decode cX6_init 99 = .ok (.bipush 21, 2) := by decide +kernel
theorem dX6_init_101 : decode cX6_init 101 = .ok (.newarray .int, 2) := by decide +kernel
theorem dX6_init_103 : decode cX6_init 103 = .ok (.putfield 53, 3) := by decide +kernel
theorem dX6_init_106 : decode cX6_init 106 = .ok (.aload_n 0, 1) := by decide +kernel
theorem dX6_init_107 : decode cX6_init 107 = .ok (.bipush 21, 2) := by decide +kernel
theorem dX6_init_109 : decode cX6_init 109 = .ok (.newarray .int, 2) := by decide +kernel
theorem dX6_init_111 : decode cX6_init 111 = .ok (.putfield 56, 3) := by decide +kernel
theorem dX6_init_114 : decode cX6_init 114 = .ok (.iconst 0, 1) := by decide +kernel
theorem dX6_init_115 : decode cX6_init 115 = .ok (.istore_n 2, 1) := by decide +kernel
theorem dX6_init_116 : decode cX6_init 116 = .ok (.iload_n 2, 1) := by decide +kernel
theorem dX6_init_117 : decode cX6_init 117 = .ok (.iconst 4, 1) := by decide +kernel
theorem dX6_init_118 : decode cX6_init 118 = .ok (.if_icmp .ge 25, 3) := by decide +kernel
theorem dX6_init_121 : decode cX6_init 121 = .ok (.aload_n 0, 1) := by decide +kernel
theorem dX6_init_122 : decode cX6_init 122 = .ok (.getfield 19, 3) := by decide +kernel
theorem dX6_init_125 : decode cX6_init 125 = .ok (.iload_n 2, 1) := by decide +kernel
theorem dX6_init_126 : decode cX6_init 126 = .ok (.iconst 3, 1) := by decide +kernel
theorem dX6_init_127 : decode cX6_init 127 = .ok (.iload_n 2, 1) := by decide +kernel
theorem dX6_init_128 : decode cX6_init 128 = .ok (.iadd, 1) := by decide +kernel
theorem dX6_init_129 : decode cX6_init 129 = .ok (.iastore, 1) := by decide +kernel
theorem dX6_init_130 : decode cX6_init 130 = .ok (.aload_n 0, 1) := by decide +kernel
theorem dX6_init_131 : decode cX6_init 131 = .ok (.getfield 32, 3) := by decide +kernel
theorem dX6_init_134 : decode cX6_init 134 = .ok (.iload_n 2, 1) := by decide +kernel
theorem dX6_init_135 : decode cX6_init 135 = .ok (.iconst (-1), 1) := by decide +kernel
theorem dX6_init_136 : decode cX6_init 136 = .ok (.iastore, 1) := by decide +kernel
theorem dX6_init_137 : decode cX6_init 137 = .ok (.iinc 2 1, 3) := by decide +kernel
theorem dX6_init_140 : decode cX6_init 140 = .ok (.goto (-24), 3) := by decide +kernel
theorem dX6_init_143 : decode cX6_init 143 = .ok (.return_, 1) := by decide +kernel
theorem dX6_copy_0 : decode cX6_copy 0 = .ok (.aload_n 1, 1) := by decide +kernel
theorem dX6_copy_1 : decode cX6_copy 1 = .ok (.iconst 0, 1) := by decide +kernel
theorem dX6_copy_2 : decode cX6_copy 2 = .ok (.aload_n 2, 1) := by decide +kernel
theorem dX6_copy_3 : decode cX6_copy 3 = .ok (.iconst 0, 1) := by decide +kernel
theorem dX6_copy_4 : decode cX6_copy 4 = .ok (.aload_n 1, 1) := by decide +kernel
theorem dX6_copy_5 : decode cX6_copy 5 = .ok (.arraylength, 1) := by decide +kernel
theorem dX6_copy_6 : decode cX6_copy 6 = .ok (.invokestatic 59, 3) := by decide +kernel
theorem dX6_copy_9 : decode cX6_copy 9 = .ok (.return_, 1) := by decide +kernel
theorem dX6_become_0 : decode cX6_become 0 = .ok (.aload_n 0, 1) := by decide +kernel
theorem dX6_become_1 : decode cX6_become 1 = .ok (.aload_n 1, 1) := by decide +kernel
theorem dX6_become_2 : decode cX6_become 2 = .ok (.getfield 65, 3) := by decide +kernel
theorem dX6_become_5 : decode cX6_become 5 = .ok (.putfield 65, 3) := by decide +kernel
theorem dX6_become_8 : decode cX6_become 8 = .ok (.aload_n 0, 1) := by decide +kernel
theorem dX6_become_9 : decode cX6_become 9 = .ok (.aload_n 1, 1) := by decide +kernel
theorem dX6_become_10 : decode cX6_become 10 = .ok (.getfield 15, 3) := by decide +kernel
theorem dX6_become_13 : decode cX6_become 13 = .ok (.putfield 15, 3) := by decide +kernel
theorem dX6_become_16 : decode cX6_become 16 = .ok (.aload_n 0, 1) := by decide +kernel
theorem dX6_become_17 : decode cX6_become 17 = .ok (.aload_n 1, 1) := by decide +kernel
theorem dX6_become_18 : decode cX6_become 18 = .ok (.getfield 68, 3) := by decide +kernel
theorem dX6_become_21 : decode cX6_become 21 = .ok (.putfield 68, 3) := by decide +kernel
theorem dX6_become_24 : decode cX6_become 24 = .ok (.aload_n 0, 1) := by decide +kernel
theorem dX6_become_25 : decode cX6_become 25 = .ok (.aload_n 1, 1) := by decide +kernel
theorem dX6_become_26 : decode cX6_become 26 = .ok (.getfield 19, 3) := by decide +kernel
theorem dX6_become_29 : decode cX6_become 29 = .ok (.aload_n 0, 1) := by decide +kernel
theorem dX6_become_30 : decode cX6_become 30 = .ok (.getfield 19, 3) := by decide +kernel
theorem dX6_become_33 : decode cX6_become 33 = .ok (.invokevirtual 71, 3) := by decide +kernel
theorem dX6_become_36 : decode cX6_become 36 = .ok (.aload_n 0, 1) := by decide +kernel
theorem dX6_become_37 : decode cX6_become 37 = .ok (.aload_n 1, 1) := by decide +kernel
theorem dX6_become_38 : decode cX6_become 38 = .ok (.getfield 23, 3) := by decide +kernel
theorem dX6_become_41 : decode cX6_become 41 = .ok (.aload_n 0, 1) := by decide +kernel
theorem dX6_become_42 : decode cX6_become 42 = .ok (.getfield 23, 3) := by decide +kernel
theorem dX6_become_45 : decode cX6_become 45 = .ok (.invokevirtual 71, 3) := by decide +kernel
theorem dX6_become_48 : decode cX6_become 48 = .ok (.aload_n 0, 1) := by decide +kernel
theorem dX6_become_49 : decode cX6_become 49 = .ok (.aload_n 1, 1) := by decide +kernel
theorem dX6_become_50 : decode cX6_become 50 = .ok (.getfield 26, 3) := by decide +kernel
theorem dX6_become_53 : decode cX6_become 53 = .ok (.aload_n 0, 1) := by decide +kernel
theorem dX6_become_54 : decode cX6_become 54 = .ok (.getfield 26, 3) := by decide +kernel
theorem dX6_become_57 : decode cX6_become 57 = .ok (.invokevirtual 71, 3) := by decide +kernel
theorem dX6_become_60 : decode cX6_become 60 = .ok (.aload_n 0, 1) := by decide +kernel
theorem dX6_become_61 : decode cX6_become 61 = .ok (.aload_n 1, 1) := by decide +kernel
theorem dX6_become_62 : decode cX6_become 62 = .ok (.getfield 29, 3) := by decide +kernel
theorem dX6_become_65 : decode cX6_become 65 = .ok (.aload_n 0, 1) := by decide +kernel
theorem dX6_become_66 : decode cX6_become 66 = .ok (.getfield 29, 3) := by decide +kernel
theorem dX6_become_69 : decode cX6_become 69 = .ok (.invokevirtual 71, 3) := by decide +kernel
theorem dX6_become_72 : decode cX6_become 72 = .ok (.aload_n 0, 1) := by decide +kernel
theorem dX6_become_73 : decode cX6_become 73 = .ok (.aload_n 1, 1) := by decide +kernel
theorem dX6_become_74 : decode cX6_become 74 = .ok (.getfield 32, 3) := by decide +kernel
theorem dX6_become_77 : decode cX6_become 77 = .ok (.aload_n 0, 1) := by decide +kernel
theorem dX6_become_78 : decode cX6_become 78 = .ok (.getfield 32, 3) := by decide +kernel
theorem dX6_become_81 : decode cX6_become 81 = .ok (.invokevirtual 71, 3) := by decide +kernel
theorem dX6_become_84 : decode cX6_become 84 = .ok (.aload_n 0, 1) := by decide +kernel
theorem dX6_become_85 : decode cX6_become 85 = .ok (.aload_n 1, 1) := by decide +kernel
theorem dX6_become_86 : decode cX6_become 86 = .ok (.getfield 35, 3) := by decide +kernel
theorem dX6_become_89 : decode cX6_become 89 = .ok (.aload_n 0, 1) := by decide +kernel
theorem dX6_become_90 : decode cX6_become 90 = .ok (.getfield 35, 3) := by decide +kernel
theorem dX6_become_93 : decode cX6_become 93 = .ok (.invokevirtual 71, 3) := by decide +kernel
theorem dX6_become_96 : decode cX6_become 96 = .ok (.aload_n 0, 1) := by decide +kernel
theorem dX6_become_97 : decode cX6_become 97 = .ok (.aload_n 1, 1) := by decide +kernel
theorem dX6_become_98 : decode cX6_become 98 = .ok (.getfield 38, 3) := by decide +kernel
theorem dX6_become_101 : decode cX6_become 101 = .ok (.aload_n 0, 1) := by decide +kernel
theorem dX6_become_102 : decode cX6_become 102 = .ok (.getfield 38, 3) := by decide +kernel
theorem dX6_become_105 : decode cX6_become 105 = .ok (.invokevirtual 71, 3) := by decide +kernel
theorem dX6_become_108 : decode cX6_become 108 = .ok (.aload_n 0, 1) := by decide +kernel
theorem dX6_become_109 : decode cX6_become 109 = .ok (.aload_n 1, 1) := by decide +kernel
theorem dX6_become_110 : decode cX6_become 110 = .ok (.getfield 41, 3) := by decide +kernel
theorem dX6_become_113 : decode cX6_become 113 = .ok (.aload_n 0, 1) := by decide +kernel
theorem dX6_become_114 : decode cX6_become 114 = .ok (.getfield 41, 3) := by decide +kernel
theorem dX6_become_117 : decode cX6_become 117 = .ok (.invokevirtual 71, 3) := by decide +kernel
theorem dX6_become_120 : decode cX6_become 120 = .ok (.aload_n 0, 1) := by decide +kernel
theorem dX6_become_121 : decode cX6_become 121 = .ok (.aload_n 1, 1) := by decide +kernel
theorem dX6_become_122 : decode cX6_become 122 = .ok (.getfield 44, 3) := by decide +kernel
theorem dX6_become_125 : decode cX6_become 125 = .ok (.aload_n 0, 1) := by decide +kernel
theorem dX6_become_126 : decode cX6_become 126 = .ok (.getfield 44, 3) := by decide +kernel
theorem dX6_become_129 : decode cX6_become 129 = .ok (.invokevirtual 71, 3) := by decide +kernel
theorem dX6_become_132 : decode cX6_become 132 = .ok (.aload_n 0, 1) := by decide +kernel
theorem dX6_become_133 : decode cX6_become 133 = .ok (.aload_n 1, 1) := by decide +kernel
theorem dX6_become_134 : decode cX6_become 134 = .ok (.getfield 47, 3) := by decide +kernel
theorem dX6_become_137 : decode cX6_become 137 = .ok (.aload_n 0, 1) := by decide +kernel
theorem dX6_become_138 : decode cX6_become 138 = .ok (.getfield 47, 3) := by decide +kernel
theorem dX6_become_141 : decode cX6_become 141 = .ok (.invokevirtual 71, 3) := by decide +kernel
theorem dX6_become_144 : decode cX6_become 144 = .ok (.aload_n 0, 1) := by decide +kernel
theorem dX6_become_145 : decode cX6_become 145 = .ok (.aload_n 1, 1) := by decide +kernel
theorem dX6_become_146 : decode cX6_become 146 = .ok (.getfield 50, 3) := by decide +kernel
theorem dX6_become_149 : decode cX6_become 149 = .ok (.aload_n 0, 1) := by decide +kernel
theorem dX6_become_150 : decode cX6_become 150 = .ok (.getfield 50, 3) := by decide +kernel
theorem dX6_become_153 : decode cX6_become 153 = .ok (.invokevirtual 71, 3) := by decide +kernel
theorem dX6_become_156 : decode cX6_become 156 = .ok (.aload_n 0, 1) := by decide +kernel
theorem dX6_become_157 : decode cX6_become 157 = .ok (.aload_n 1, 1) := by decide +kernel
theorem dX6_become_158 : decode cX6_become 158 = .ok (.getfield 53, 3) := by decide +kernel
theorem dX6_become_161 : decode cX6_become 161 = .ok (.aload_n 0, 1) := by decide +kernel
theorem dX6_become_162 : decode cX6_become 162 = .ok (.getfield 53, 3) := by decide +kernel
theorem dX6_become_165 : decode cX6_become 165 = .ok (.invokevirtual 71, 3) := by decide +kernel
theorem dX6_become_168 : decode cX6_become 168 = .ok (.aload_n 0, 1) := by decide +kernel
theorem dX6_become_169 : decode cX6_become 169 = .ok (.aload_n 1, 1) := by decide +kernel
theorem dX6_become_170 : decode cX6_become 170 = .ok (.getfield 56, 3) := by decide +kernel
theorem dX6_become_173 : decode cX6_become 173 = .ok (.aload_n 0, 1) := by decide +kernel
theorem dX6_become_174 : decode cX6_become 174 = .ok (.getfield 56, 3) := by decide +kernel
theorem dX6_become_177 : decode cX6_become 177 = .ok (.invokevirtual 71, 3) := by decide +kernel
theorem dX6_become_180 : decode cX6_become 180 = .ok (.return_, 1) := by decide +kernel
theorem dX6_come_0 : decode cX6_come 0 = .ok (.aload_n 0, 1) := by decide +kernel
theorem dX6_come_1 : decode cX6_come 1 = .ok (.getfield 50, 3) := by decide +kernel
theorem dX6_come_4 : decode cX6_come 4 = .ok (.aload_n 0, 1) := by decide +kernel
theorem dX6_come_5 : decode cX6_come 5 = .ok (.getfield 68, 3) := by decide +kernel
theorem dX6_come_8 : decode cX6_come 8 = .ok (.iconst 0, 1) := by decide +kernel
theorem dX6_come_9 : decode cX6_come 9 = .ok (.iastore, 1) := by decide +kernel
theorem dX6_come_10 : decode cX6_come 10 = .ok (.aload_n 0, 1) := by decide +kernel
theorem dX6_come_11 : decode cX6_come 11 = .ok (.getfield 53, 3) := by decide +kernel
theorem dX6_come_14 : decode cX6_come 14 = .ok (.aload_n 0, 1) := by decide +kernel
theorem dX6_come_15 : decode cX6_come 15 = .ok (.getfield 68, 3) := by decide +kernel
theorem dX6_come_18 : decode cX6_come 18 = .ok (.iconst 0, 1) := by decide +kernel
theorem dX6_come_19 : decode cX6_come 19 = .ok (.iastore, 1) := by decide +kernel
theorem dX6_come_20 : decode cX6_come 20 = .ok (.aload_n 0, 1) := by decide +kernel
theorem dX6_come_21 : decode cX6_come 21 = .ok (.getfield 56, 3) := by decide +kernel
theorem dX6_come_24 : decode cX6_come 24 = .ok (.aload_n 0, 1) := by decide +kernel
theorem dX6_come_25 : decode cX6_come 25 = .ok (.getfield 68, 3) := by decide +kernel
theorem dX6_come_28 : decode cX6_come 28 = .ok (.iconst (-1), 1) := by decide +kernel
theorem dX6_come_29 : decode cX6_come 29 = .ok (.iastore, 1) := by decide +kernel
theorem dX6_come_30 : decode cX6_come 30 = .ok (.aload_n 0, 1) := by decide +kernel
theorem dX6_come_31 : decode cX6_come 31 = .ok (.dup, 1) := by decide +kernel
theorem dX6_come_32 : decode cX6_come 32 = .ok (.getfield 68, 3) := by decide +kernel
theorem dX6_come_35 : decode cX6_come 35 = .ok (.iconst 1, 1) := by decide +kernel
theorem dX6_come_36 : decode cX6_come 36 = .ok (.iadd, 1) := by decide +kernel
theorem dX6_come_37 : decode cX6_come 37 = .ok (.putfield 68, 3) := by decide +kernel
theorem dX6_come_40 : decode cX6_come 40 = .ok (.aload_n 0, 1) := by decide +kernel
theorem dX6_come_41 : decode cX6_come 41 = .ok (.getfield 68, 3) := by decide +kernel
theorem dX6_come_44 : decode cX6_come 44 = .ok (.iconst 1, 1) := by decide +kernel
theorem dX6_come_45 : decode cX6_come 45 = .ok (.isub, 1) := by decide +kernel
theorem dX6_come_46 : decode cX6_come 46 = .ok (.ireturn, 1) := by decide +kernel
theorem dX6_first_0 : decode cX6_first 0 = .ok (.iconst 0, 1) := by decide +kernel
theorem dX6_first_1 : decode cX6_first 1 = .ok (.istore_n 2, 1) := by decide +kernel
theorem dX6_first_2 : decode cX6_first 2 = .ok (.iload_n 2, 1) := by decide +kernel
theorem dX6_first_3 : decode cX6_first 3 = .ok (.aload_n 0, 1) := by decide +kernel
theorem dX6_first_4 : decode cX6_first 4 = .ok (.getfield 68, 3) := by decide +kernel
theorem dX6_first_7 : decode cX6_first 7 = .ok (.if_icmp .ge 34, 3) := by decide +kernel
theorem dX6_first_10 : decode cX6_first 10 = .ok (.aload_n 0, 1) := by decide +kernel
theorem dX6_first_11 : decode cX6_first 11 = .ok (.getfield 3, 3) := by decide +kernel
theorem dX6_first_14 : decode cX6_first 14 = .ok (.getfield 75, 3) := by decide +kernel
theorem dX6_first_17 : decode cX6_first 17 = .ok (.iload_n 2, 1) := by decide +kernel
theorem dX6_first_18 : decode cX6_first 18 = .ok (.iaload, 1) := by decide +kernel
theorem dX6_first_19 : decode cX6_first 19 = .ok (.iload_n 1, 1) := by decide +kernel
theorem dX6_first_20 : decode cX6_first 20 = .ok (.if_icmp .ne 15, 3) := by decide +kernel
theorem dX6_first_23 : decode cX6_first 23 = .ok (.aload_n 0, 1) := by decide +kernel
theorem dX6_first_24 : decode cX6_first 24 = .ok (.getfield 56, 3) := by decide +kernel
theorem dX6_first_27 : decode cX6_first 27 = .ok (.iload_n 2, 1) := by decide +kernel
theorem dX6_first_28 : decode cX6_first 28 = .ok (.iaload, 1) := by decide +kernel
theorem dX6_first_29 : decode cX6_first 29 = .ok (.iconst (-1), 1) := by decide +kernel
theorem dX6_first_30 : decode cX6_first 30 = .ok (.if_icmp .ne 5, 3) := by decide +kernel
theorem dX6_first_33 : decode cX6_first 33 = .ok (.iload_n 2, 1) := by decide +kernel
theorem dX6_first_34 : decode cX6_first 34 = .ok (.ireturn, 1) := by decide +kernel
theorem dX6_first_35 : decode cX6_first 35 = .ok (.iinc 2 1, 3) := by decide +kernel
theorem dX6_first_38 : decode cX6_first 38 = .ok (.goto (-36), 3) := by decide +kernel
theorem dX6_first_41 : decode cX6_first 41 = .ok (.iconst (-1), 1) := by decide +kernel
theorem dX6_first_42 : decode cX6_first 42 = .ok (.ireturn, 1) := by decide +kernel
theorem dX6_bellOf_0 : decode cX6_bellOf 0 = .ok (.iconst 0, 1) := by decide +kernel
theorem dX6_bellOf_1 : decode cX6_bellOf 1 = .ok (.istore_n 2, 1) := by decide +kernel
theorem dX6_bellOf_2 : decode cX6_bellOf 2 = .ok (.iload_n 2, 1) := by decide +kernel
theorem dX6_bellOf_3 : decode cX6_bellOf 3 = .ok (.iconst 4, 1) := by decide +kernel
theorem dX6_bellOf_4 : decode cX6_bellOf 4 = .ok (.if_icmp .ge 21, 3) := by decide +kernel
theorem dX6_bellOf_7 : decode cX6_bellOf 7 = .ok (.aload_n 0, 1) := by decide +kernel
theorem dX6_bellOf_8 : decode cX6_bellOf 8 = .ok (.getfield 32, 3) := by decide +kernel
theorem dX6_bellOf_11 : decode cX6_bellOf 11 = .ok (.iload_n 2, 1) := by decide +kernel
theorem dX6_bellOf_12 : decode cX6_bellOf 12 = .ok (.iaload, 1) := by decide +kernel
theorem dX6_bellOf_13 : decode cX6_bellOf 13 = .ok (.iload_n 1, 1) := by decide +kernel
theorem dX6_bellOf_14 : decode cX6_bellOf 14 = .ok (.if_icmp .ne 5, 3) := by decide +kernel
theorem dX6_bellOf_17 : decode cX6_bellOf 17 = .ok (.iload_n 2, 1) := by decide +kernel
theorem dX6_bellOf_18 : decode cX6_bellOf 18 = .ok (.ireturn, 1) := by decide +kernel
theorem dX6_bellOf_19 : decode cX6_bellOf 19 = .ok (.iinc 2 1, 3) := by decide +kernel
theorem dX6_bellOf_22 : decode cX6_bellOf 22 = .ok (.goto (-20), 3) := by decide +kernel
theorem dX6_bellOf_25 : decode cX6_bellOf 25 = .ok (.iconst (-1), 1) := by decide +kernel
theorem dX6_bellOf_26 : decode cX6_bellOf 26 = .ok (.ireturn, 1) := by decide +kernel
theorem dX6_canPull_0 : decode cX6_canPull 0 = .ok (.aload_n 0, 1) := by decide +kernel
theorem dX6_canPull_1 : decode cX6_canPull 1 = .ok (.getfield 41, 3) := by decide +kernel
theorem dX6_canPull_4 : decode cX6_canPull 4 = .ok (.iload_n 1, 1) := by decide +kernel
theorem dX6_canPull_5 : decode cX6_canPull 5 = .ok (.iaload, 1) := by decide +kernel
theorem dX6_canPull_6 : decode cX6_canPull 6 = .ok (.aload_n 0, 1) := by decide +kernel
theorem dX6_canPull_7 : decode cX6_canPull 7 = .ok (.getfield 19, 3) := by decide +kernel
theorem dX6_canPull_10 : decode cX6_canPull 10 = .ok (.iload_n 2, 1) := by decide +kernel
theorem dX6_canPull_11 : decode cX6_canPull 11 = .ok (.iaload, 1) := by decide +kernel
theorem dX6_canPull_12 : decode cX6_canPull 12 = .ok (.iadd, 1) := by decide +kernel
theorem dX6_canPull_13 : decode cX6_canPull 13 = .ok (.bipush 10, 2) := by decide +kernel
theorem dX6_canPull_15 : decode cX6_canPull 15 = .ok (.aload_n 0, 1) := by decide +kernel
theorem dX6_canPull_16 : decode cX6_canPull 16 = .ok (.getfield 3, 3) := by decide +kernel
theorem dX6_canPull_19 : decode cX6_canPull 19 = .ok (.getfield 78, 3) := by decide +kernel
theorem dX6_canPull_22 : decode cX6_canPull 22 = .ok (.iload_n 1, 1) := by decide +kernel
theorem dX6_canPull_23 : decode cX6_canPull 23 = .ok (.iaload, 1) := by decide +kernel
theorem dX6_canPull_24 : decode cX6_canPull 24 = .ok (.imul, 1) := by decide +kernel
theorem dX6_canPull_25 : decode cX6_canPull 25 = .ok (.if_icmp .gt 7, 3) := by decide +kernel
theorem dX6_canPull_28 : decode cX6_canPull 28 = .ok (.iconst 1, 1) := by decide +kernel
theorem dX6_canPull_29 : decode cX6_canPull 29 = .ok (.goto 4, 3) := by decide +kernel
theorem dX6_canPull_32 : decode cX6_canPull 32 = .ok (.iconst 0, 1) := by decide +kernel
theorem dX6_canPull_33 : decode cX6_canPull 33 = .ok (.ireturn, 1) := by decide +kernel
theorem dX6_isManned_0 : decode cX6_isManned 0 = .ok (.aload_n 0, 1) := by decide +kernel
theorem dX6_isManned_1 : decode cX6_isManned 1 = .ok (.getfield 32, 3) := by decide +kernel
theorem dX6_isManned_4 : decode cX6_isManned 4 = .ok (.iload_n 1, 1) := by decide +kernel
theorem dX6_isManned_5 : decode cX6_isManned 5 = .ok (.iaload, 1) := by decide +kernel
theorem dX6_isManned_6 : decode cX6_isManned 6 = .ok (.iconst (-1), 1) := by decide +kernel
theorem dX6_isManned_7 : decode cX6_isManned 7 = .ok (.if_icmp .eq 19, 3) := by decide +kernel
theorem dX6_isManned_10 : decode cX6_isManned 10 = .ok (.aload_n 0, 1) := by decide +kernel
theorem dX6_isManned_11 : decode cX6_isManned 11 = .ok (.aload_n 0, 1) := by decide +kernel
theorem dX6_isManned_12 : decode cX6_isManned 12 = .ok (.getfield 32, 3) := by decide +kernel
theorem dX6_isManned_15 : decode cX6_isManned 15 = .ok (.iload_n 1, 1) := by decide +kernel
theorem dX6_isManned_16 : decode cX6_isManned 16 = .ok (.iaload, 1) := by decide +kernel
theorem dX6_isManned_17 : decode cX6_isManned 17 = .ok (.iload_n 1, 1) := by decide +kernel
theorem dX6_isManned_18 : decode cX6_isManned 18 = .ok (.invokevirtual 81, 3) := by decide +kernel
theorem dX6_isManned_21 : decode cX6_isManned 21 = .ok (.ifCond .eq 5, 3) := by decide +kernel
theorem dX6_isManned_24 : decode cX6_isManned 24 = .ok (.iconst 1, 1) := by decide +kernel
theorem dX6_isManned_25 : decode cX6_isManned 25 = .ok (.ireturn, 1) := by decide +kernel
theorem dX6_isManned_26 : decode cX6_isManned 26 = .ok (.iconst (-1), 1) := by decide +kernel
theorem dX6_isManned_27 : decode cX6_isManned 27 = .ok (.istore_n 2, 1) := by decide +kernel
theorem dX6_isManned_28 : decode cX6_isManned 28 = .ok (.iconst 0, 1) := by decide +kernel
theorem dX6_isManned_29 : decode cX6_isManned 29 = .ok (.istore_n 3, 1) := by decide +kernel
theorem dX6_isManned_30 : decode cX6_isManned 30 = .ok (.iload_n 3, 1) := by decide +kernel
theorem dX6_isManned_31 : decode cX6_isManned 31 = .ok (.aload_n 0, 1) := by decide +kernel
theorem dX6_isManned_32 : decode cX6_isManned 32 = .ok (.getfield 3, 3) := by decide +kernel
theorem dX6_isManned_35 : decode cX6_isManned 35 = .ok (.getfield 85, 3) := by decide +kernel
theorem dX6_isManned_38 : decode cX6_isManned 38 = .ok (.if_icmp .ge 49, 3) := by decide +kernel
theorem dX6_isManned_41 : decode cX6_isManned 41 = .ok (.aload_n 0, 1) := by decide +kernel
theorem dX6_isManned_42 : decode cX6_isManned 42 = .ok (.iload_n 3, 1) := by decide +kernel
theorem dX6_isManned_43 : decode cX6_isManned 43 = .ok (.invokevirtual 88, 3) := by decide +kernel
theorem dX6_isManned_46 : decode cX6_isManned 46 = .ok (.iconst (-1), 1) := by decide +kernel
theorem dX6_isManned_47 : decode cX6_isManned 47 = .ok (.if_icmp .ne 34, 3) := by decide +kernel
theorem dX6_isManned_50 : decode cX6_isManned 50 = .ok (.aload_n 0, 1) := by decide +kernel
theorem dX6_isManned_51 : decode cX6_isManned 51 = .ok (.iload_n 3, 1) := by decide +kernel
theorem dX6_isManned_52 : decode cX6_isManned 52 = .ok (.iload_n 1, 1) := by decide +kernel
theorem dX6_isManned_53 : decode cX6_isManned 53 = .ok (.invokevirtual 81, 3) := by decide +kernel
theorem dX6_isManned_56 : decode cX6_isManned 56 = .ok (.ifCond .eq 25, 3) := by decide +kernel
theorem dX6_isManned_59 : decode cX6_isManned 59 = .ok (.iload_n 2, 1) := by decide +kernel
theorem dX6_isManned_60 : decode cX6_isManned 60 = .ok (.iconst (-1), 1) := by decide +kernel
theorem dX6_isManned_61 : decode cX6_isManned 61 = .ok (.if_icmp .eq 18, 3) := by decide +kernel
theorem dX6_isManned_64 : decode cX6_isManned 64 = .ok (.aload_n 0, 1) := by decide +kernel
theorem dX6_isManned_65 : decode cX6_isManned 65 = .ok (.getfield 41, 3) := by decide +kernel
theorem dX6_isManned_68 : decode cX6_isManned 68 = .ok (.iload_n 3, 1) := by decide +kernel
theorem dX6_isManned_69 : decode cX6_isManned 69 = .ok (.iaload, 1) := by decide +kernel
theorem dX6_isManned_70 : decode cX6_isManned 70 = .ok (.aload_n 0, 1) := by decide +kernel
theorem dX6_isManned_71 : decode cX6_isManned 71 = .ok (.getfield 41, 3) := by decide +kernel
theorem dX6_isManned_74 : decode cX6_isManned 74 = .ok (.iload_n 2, 1) := by decide +kernel
theorem dX6_isManned_75 : decode cX6_isManned 75 = .ok (.iaload, 1) := by decide +kernel
theorem dX6_isManned_76 : decode cX6_isManned 76 = .ok (.if_icmp .ge 5, 3) := by decide +kernel
theorem dX6_isManned_79 : decode cX6_isManned 79 = .ok (.iload_n 3, 1) := by decide +kernel
theorem dX6_isManned_80 : decode cX6_isManned 80 = .ok (.istore_n 2, 1) := by decide +kernel
theorem dX6_isManned_81 : decode cX6_isManned 81 = .ok (.iinc 3 1, 3) := by decide +kernel
theorem dX6_isManned_84 : decode cX6_isManned 84 = .ok (.goto (-54), 3) := by decide +kernel
theorem dX6_isManned_87 : decode cX6_isManned 87 = .ok (.iload_n 2, 1) := by decide +kernel
theorem dX6_isManned_88 : decode cX6_isManned 88 = .ok (.iconst (-1), 1) := by decide +kernel
theorem dX6_isManned_89 : decode cX6_isManned 89 = .ok (.if_icmp .ne 5, 3) := by decide +kernel
theorem dX6_isManned_92 : decode cX6_isManned 92 = .ok (.iconst 0, 1) := by decide +kernel
theorem dX6_isManned_93 : decode cX6_isManned 93 = .ok (.ireturn, 1) := by decide +kernel
theorem dX6_isManned_94 : decode cX6_isManned 94 = .ok (.aload_n 0, 1) := by decide +kernel
theorem dX6_isManned_95 : decode cX6_isManned 95 = .ok (.getfield 32, 3) := by decide +kernel
theorem dX6_isManned_98 : decode cX6_isManned 98 = .ok (.iload_n 1, 1) := by decide +kernel
theorem dX6_isManned_99 : decode cX6_isManned 99 = .ok (.iload_n 2, 1) := by decide +kernel
theorem dX6_isManned_100 : decode cX6_isManned 100 = .ok (.iastore, 1) := by decide +kernel
theorem dX6_isManned_101 : decode cX6_isManned 101 = .ok (.aload_n 0, 1) := by decide +kernel
theorem dX6_isManned_102 : decode cX6_isManned 102 = .ok (.getfield 47, 3) := by decide +kernel
theorem dX6_isManned_105 : decode cX6_isManned 105 = .ok (.iload_n 2, 1) := by decide +kernel
theorem dX6_isManned_106 : decode cX6_isManned 106 = .ok (.dup2, 1) := by decide +kernel
theorem dX6_isManned_107 : decode cX6_isManned 107 = .ok (.iaload, 1) := by decide +kernel
theorem dX6_isManned_108 : decode cX6_isManned 108 = .ok (.iconst 1, 1) := by decide +kernel
theorem dX6_isManned_109 : decode cX6_isManned 109 = .ok (.iadd, 1) := by decide +kernel
theorem dX6_isManned_110 : decode cX6_isManned 110 = .ok (.iastore, 1) := by decide +kernel
theorem dX6_isManned_111 : decode cX6_isManned 111 = .ok (.iconst 1, 1) := by decide +kernel
theorem dX6_isManned_112 : decode cX6_isManned 112 = .ok (.ireturn, 1) := by decide +kernel
theorem dX6_stroke_0 : decode cX6_stroke 0 = .ok (.iconst 2, 1) := by decide +kernel
theorem dX6_stroke_1 : decode cX6_stroke 1 = .ok (.iload_n 1, 1) := by decide +kernel
theorem dX6_stroke_2 : decode cX6_stroke 2 = .ok (.imul, 1) := by decide +kernel
theorem dX6_stroke_3 : decode cX6_stroke 3 = .ok (.aload_n 0, 1) := by decide +kernel
theorem dX6_stroke_4 : decode cX6_stroke 4 = .ok (.getfield 29, 3) := by decide +kernel
theorem dX6_stroke_7 : decode cX6_stroke 7 = .ok (.iload_n 1, 1) := by decide +kernel
theorem dX6_stroke_8 : decode cX6_stroke 8 = .ok (.iaload, 1) := by decide +kernel
theorem dX6_stroke_9 : decode cX6_stroke 9 = .ok (.iadd, 1) := by decide +kernel
theorem dX6_stroke_10 : decode cX6_stroke 10 = .ok (.istore 4, 2) := by decide +kernel
theorem dX6_stroke_12 : decode cX6_stroke 12 = .ok (.bipush 10, 2) := by decide +kernel
theorem dX6_stroke_14 : decode cX6_stroke 14 = .ok (.aload_n 0, 1) := by decide +kernel
theorem dX6_stroke_15 : decode cX6_stroke 15 = .ok (.getfield 19, 3) := by decide +kernel
theorem dX6_stroke_18 : decode cX6_stroke 18 = .ok (.iload_n 1, 1) := by decide +kernel
theorem dX6_stroke_19 : decode cX6_stroke 19 = .ok (.iaload, 1) := by decide +kernel
theorem dX6_stroke_20 : decode cX6_stroke 20 = .ok (.imul, 1) := by decide +kernel
theorem dX6_stroke_21 : decode cX6_stroke 21 = .ok (.iconst 1, 1) := by decide +kernel
theorem dX6_stroke_22 : decode cX6_stroke 22 = .ok (.aload_n 0, 1) := by decide +kernel
theorem dX6_stroke_23 : decode cX6_stroke 23 = .ok (.getfield 23, 3) := by decide +kernel
theorem dX6_stroke_26 : decode cX6_stroke 26 = .ok (.iload 4, 2) := by decide +kernel
theorem dX6_stroke_28 : decode cX6_stroke 28 = .ok (.iaload, 1) := by decide +kernel
theorem dX6_stroke_29 : decode cX6_stroke 29 = .ok (.iadd, 1) := by decide +kernel
theorem dX6_stroke_30 : decode cX6_stroke 30 = .ok (.idiv, 1) := by decide +kernel
theorem dX6_stroke_31 : decode cX6_stroke 31 = .ok (.istore 5, 2) := by decide +kernel
theorem dX6_stroke_33 : decode cX6_stroke 33 = .ok (.aload_n 0, 1) := by decide +kernel
theorem dX6_stroke_34 : decode cX6_stroke 34 = .ok (.getfield 41, 3) := by decide +kernel
theorem dX6_stroke_37 : decode cX6_stroke 37 = .ok (.aload_n 0, 1) := by decide +kernel
theorem dX6_stroke_38 : decode cX6_stroke 38 = .ok (.getfield 32, 3) := by decide +kernel
theorem dX6_stroke_41 : decode cX6_stroke 41 = .ok (.iload_n 1, 1) := by decide +kernel
theorem dX6_stroke_42 : decode cX6_stroke 42 = .ok (.iaload, 1) := by decide +kernel
theorem dX6_stroke_43 : decode cX6_stroke 43 = .ok (.dup2, 1) := by decide +kernel
theorem dX6_stroke_44 : decode cX6_stroke 44 = .ok (.iaload, 1) := by decide +kernel
theorem dX6_stroke_45 : decode cX6_stroke 45 = .ok (.aload_n 0, 1) := by decide +kernel
theorem dX6_stroke_46 : decode cX6_stroke 46 = .ok (.getfield 19, 3) := by decide +kernel
theorem dX6_stroke_49 : decode cX6_stroke 49 = .ok (.iload_n 1, 1) := by decide +kernel
theorem dX6_stroke_50 : decode cX6_stroke 50 = .ok (.iaload, 1) := by decide +kernel
theorem dX6_stroke_51 : decode cX6_stroke 51 = .ok (.iadd, 1) := by decide +kernel
theorem dX6_stroke_52 : decode cX6_stroke 52 = .ok (.iastore, 1) := by decide +kernel
theorem dX6_stroke_53 : decode cX6_stroke 53 = .ok (.aload_n 0, 1) := by decide +kernel
theorem dX6_stroke_54 : decode cX6_stroke 54 = .ok (.getfield 44, 3) := by decide +kernel
theorem dX6_stroke_57 : decode cX6_stroke 57 = .ok (.aload_n 0, 1) := by decide +kernel
theorem dX6_stroke_58 : decode cX6_stroke 58 = .ok (.getfield 32, 3) := by decide +kernel
theorem dX6_stroke_61 : decode cX6_stroke 61 = .ok (.iload_n 1, 1) := by decide +kernel
theorem dX6_stroke_62 : decode cX6_stroke 62 = .ok (.iaload, 1) := by decide +kernel
theorem dX6_stroke_63 : decode cX6_stroke 63 = .ok (.dup2, 1) := by decide +kernel
theorem dX6_stroke_64 : decode cX6_stroke 64 = .ok (.iaload, 1) := by decide +kernel
theorem dX6_stroke_65 : decode cX6_stroke 65 = .ok (.iconst 1, 1) := by decide +kernel
theorem dX6_stroke_66 : decode cX6_stroke 66 = .ok (.iadd, 1) := by decide +kernel
theorem dX6_stroke_67 : decode cX6_stroke 67 = .ok (.iastore, 1) := by decide +kernel
theorem dX6_stroke_68 : decode cX6_stroke 68 = .ok (.aload_n 0, 1) := by decide +kernel
theorem dX6_stroke_69 : decode cX6_stroke 69 = .ok (.getfield 38, 3) := by decide +kernel
theorem dX6_stroke_72 : decode cX6_stroke 72 = .ok (.iload_n 1, 1) := by decide +kernel
theorem dX6_stroke_73 : decode cX6_stroke 73 = .ok (.dup2, 1) := by decide +kernel
theorem dX6_stroke_74 : decode cX6_stroke 74 = .ok (.iaload, 1) := by decide +kernel
theorem dX6_stroke_75 : decode cX6_stroke 75 = .ok (.iconst 1, 1) := by decide +kernel
theorem dX6_stroke_76 : decode cX6_stroke 76 = .ok (.iadd, 1) := by decide +kernel
theorem dX6_stroke_77 : decode cX6_stroke 77 = .ok (.iastore, 1) := by decide +kernel
theorem dX6_stroke_78 : decode cX6_stroke 78 = .ok (.aload_n 0, 1) := by decide +kernel
theorem dX6_stroke_79 : decode cX6_stroke 79 = .ok (.getfield 50, 3) := by decide +kernel
theorem dX6_stroke_82 : decode cX6_stroke 82 = .ok (.iload_n 2, 1) := by decide +kernel
theorem dX6_stroke_83 : decode cX6_stroke 83 = .ok (.dup2, 1) := by decide +kernel
theorem dX6_stroke_84 : decode cX6_stroke 84 = .ok (.iaload, 1) := by decide +kernel
theorem dX6_stroke_85 : decode cX6_stroke 85 = .ok (.iconst 1, 1) := by decide +kernel
theorem dX6_stroke_86 : decode cX6_stroke 86 = .ok (.iadd, 1) := by decide +kernel
theorem dX6_stroke_87 : decode cX6_stroke 87 = .ok (.iastore, 1) := by decide +kernel
theorem dX6_stroke_88 : decode cX6_stroke 88 = .ok (.iload_n 3, 1) := by decide +kernel
theorem dX6_stroke_89 : decode cX6_stroke 89 = .ok (.ifCond .eq 39, 3) := by decide +kernel
theorem dX6_stroke_92 : decode cX6_stroke 92 = .ok (.aload_n 0, 1) := by decide +kernel
theorem dX6_stroke_93 : decode cX6_stroke 93 = .ok (.getfield 50, 3) := by decide +kernel
theorem dX6_stroke_96 : decode cX6_stroke 96 = .ok (.iload_n 2, 1) := by decide +kernel
theorem dX6_stroke_97 : decode cX6_stroke 97 = .ok (.iaload, 1) := by decide +kernel
theorem dX6_stroke_98 : decode cX6_stroke 98 = .ok (.aload_n 0, 1) := by decide +kernel
theorem dX6_stroke_99 : decode cX6_stroke 99 = .ok (.getfield 3, 3) := by decide +kernel
theorem dX6_stroke_102 : decode cX6_stroke 102 = .ok (.iload_n 2, 1) := by decide +kernel
theorem dX6_stroke_103 : decode cX6_stroke 103 = .ok (.invokevirtual 92, 3) := by decide +kernel
theorem dX6_stroke_106 : decode cX6_stroke 106 = .ok (.if_icmp .le 22, 3) := by decide +kernel
theorem dX6_stroke_109 : decode cX6_stroke 109 = .ok (.aload_n 0, 1) := by decide +kernel
theorem dX6_stroke_110 : decode cX6_stroke 110 = .ok (.getfield 3, 3) := by decide +kernel
theorem dX6_stroke_113 : decode cX6_stroke 113 = .ok (.getfield 95, 3) := by decide +kernel
theorem dX6_stroke_116 : decode cX6_stroke 116 = .ok (.bipush 91, 2) := by decide +kernel
theorem dX6_stroke_118 : decode cX6_stroke 118 = .ok (.iload_n 2, 1) := by decide +kernel
theorem dX6_stroke_119 : decode cX6_stroke 119 = .ok (.imul, 1) := by decide +kernel
theorem dX6_stroke_120 : decode cX6_stroke 120 = .ok (.iload 5, 2) := by decide +kernel
theorem dX6_stroke_122 : decode cX6_stroke 122 = .ok (.iadd, 1) := by decide +kernel
theorem dX6_stroke_123 : decode cX6_stroke 123 = .ok (.dup2, 1) := by decide +kernel
theorem dX6_stroke_124 : decode cX6_stroke 124 = .ok (.iaload, 1) := by decide +kernel
theorem dX6_stroke_125 : decode cX6_stroke 125 = .ok (.iconst 1, 1) := by decide +kernel
theorem dX6_stroke_126 : decode cX6_stroke 126 = .ok (.iadd, 1) := by decide +kernel
theorem dX6_stroke_127 : decode cX6_stroke 127 = .ok (.iastore, 1) := by decide +kernel
theorem dX6_stroke_128 : decode cX6_stroke 128 = .ok (.aload_n 0, 1) := by decide +kernel
theorem dX6_stroke_129 : decode cX6_stroke 129 = .ok (.getfield 23, 3) := by decide +kernel
theorem dX6_stroke_132 : decode cX6_stroke 132 = .ok (.iload 4, 2) := by decide +kernel
theorem dX6_stroke_134 : decode cX6_stroke 134 = .ok (.iaload, 1) := by decide +kernel
theorem dX6_stroke_135 : decode cX6_stroke 135 = .ok (.ifCond .ne 16, 3) := by decide +kernel
theorem dX6_stroke_138 : decode cX6_stroke 138 = .ok (.aload_n 0, 1) := by decide +kernel
theorem dX6_stroke_139 : decode cX6_stroke 139 = .ok (.getfield 53, 3) := by decide +kernel
theorem dX6_stroke_142 : decode cX6_stroke 142 = .ok (.iload_n 2, 1) := by decide +kernel
theorem dX6_stroke_143 : decode cX6_stroke 143 = .ok (.dup2, 1) := by decide +kernel
theorem dX6_stroke_144 : decode cX6_stroke 144 = .ok (.iaload, 1) := by decide +kernel
theorem dX6_stroke_145 : decode cX6_stroke 145 = .ok (.iconst 1, 1) := by decide +kernel
theorem dX6_stroke_146 : decode cX6_stroke 146 = .ok (.iadd, 1) := by decide +kernel
theorem dX6_stroke_147 : decode cX6_stroke 147 = .ok (.iastore, 1) := by decide +kernel
theorem dX6_stroke_148 : decode cX6_stroke 148 = .ok (.goto 46, 3) := by decide +kernel
theorem dX6_stroke_151 : decode cX6_stroke 151 = .ok (.aload_n 0, 1) := by decide +kernel
theorem dX6_stroke_152 : decode cX6_stroke 152 = .ok (.getfield 26, 3) := by decide +kernel
theorem dX6_stroke_155 : decode cX6_stroke 155 = .ok (.iload 4, 2) := by decide +kernel
theorem dX6_stroke_157 : decode cX6_stroke 157 = .ok (.dup2, 1) := by decide +kernel
theorem dX6_stroke_158 : decode cX6_stroke 158 = .ok (.iaload, 1) := by decide +kernel
theorem dX6_stroke_159 : decode cX6_stroke 159 = .ok (.aload_n 0, 1) := by decide +kernel
theorem dX6_stroke_160 : decode cX6_stroke 160 = .ok (.getfield 19, 3) := by decide +kernel
theorem dX6_stroke_163 : decode cX6_stroke 163 = .ok (.iload_n 1, 1) := by decide +kernel
theorem dX6_stroke_164 : decode cX6_stroke 164 = .ok (.iaload, 1) := by decide +kernel
theorem dX6_stroke_165 : decode cX6_stroke 165 = .ok (.iadd, 1) := by decide +kernel
theorem dX6_stroke_166 : decode cX6_stroke 166 = .ok (.iastore, 1) := by decide +kernel
theorem dX6_stroke_167 : decode cX6_stroke 167 = .ok (.aload_n 0, 1) := by decide +kernel
theorem dX6_stroke_168 : decode cX6_stroke 168 = .ok (.getfield 26, 3) := by decide +kernel
theorem dX6_stroke_171 : decode cX6_stroke 171 = .ok (.iload 4, 2) := by decide +kernel
theorem dX6_stroke_173 : decode cX6_stroke 173 = .ok (.iaload, 1) := by decide +kernel
theorem dX6_stroke_174 : decode cX6_stroke 174 = .ok (.bipush 10, 2) := by decide +kernel
theorem dX6_stroke_176 : decode cX6_stroke 176 = .ok (.aload_n 0, 1) := by decide +kernel
theorem dX6_stroke_177 : decode cX6_stroke 177 = .ok (.getfield 23, 3) := by decide +kernel
theorem dX6_stroke_180 : decode cX6_stroke 180 = .ok (.iload 4, 2) := by decide +kernel
theorem dX6_stroke_182 : decode cX6_stroke 182 = .ok (.iaload, 1) := by decide +kernel
theorem dX6_stroke_183 : decode cX6_stroke 183 = .ok (.imul, 1) := by decide +kernel
theorem dX6_stroke_184 : decode cX6_stroke 184 = .ok (.if_icmp .lt 10, 3) := by decide +kernel
theorem dX6_stroke_187 : decode cX6_stroke 187 = .ok (.aload_n 0, 1) := by decide +kernel
theorem dX6_stroke_188 : decode cX6_stroke 188 = .ok (.iload 4, 2) := by decide +kernel
theorem dX6_stroke_190 : decode cX6_stroke 190 = .ok (.iconst 0, 1) := by decide +kernel
theorem dX6_stroke_191 : decode cX6_stroke 191 = .ok (.invokevirtual 98, 3) := by decide +kernel
theorem dX6_stroke_194 : decode cX6_stroke 194 = .ok (.aload_n 0, 1) := by decide +kernel
theorem dX6_stroke_195 : decode cX6_stroke 195 = .ok (.getfield 29, 3) := by decide +kernel
theorem dX6_stroke_198 : decode cX6_stroke 198 = .ok (.iload_n 1, 1) := by decide +kernel
theorem dX6_stroke_199 : decode cX6_stroke 199 = .ok (.iconst 1, 1) := by decide +kernel
theorem dX6_stroke_200 : decode cX6_stroke 200 = .ok (.aload_n 0, 1) := by decide +kernel
theorem dX6_stroke_201 : decode cX6_stroke 201 = .ok (.getfield 29, 3) := by decide +kernel
theorem dX6_stroke_204 : decode cX6_stroke 204 = .ok (.iload_n 1, 1) := by decide +kernel
theorem dX6_stroke_205 : decode cX6_stroke 205 = .ok (.iaload, 1) := by decide +kernel
theorem dX6_stroke_206 : decode cX6_stroke 206 = .ok (.isub, 1) := by decide +kernel
theorem dX6_stroke_207 : decode cX6_stroke 207 = .ok (.iastore, 1) := by decide +kernel
theorem dX6_stroke_208 : decode cX6_stroke 208 = .ok (.aload_n 0, 1) := by decide +kernel
theorem dX6_stroke_209 : decode cX6_stroke 209 = .ok (.getfield 50, 3) := by decide +kernel
theorem dX6_stroke_212 : decode cX6_stroke 212 = .ok (.iload_n 2, 1) := by decide +kernel
theorem dX6_stroke_213 : decode cX6_stroke 213 = .ok (.iaload, 1) := by decide +kernel
theorem dX6_stroke_214 : decode cX6_stroke 214 = .ok (.aload_n 0, 1) := by decide +kernel
theorem dX6_stroke_215 : decode cX6_stroke 215 = .ok (.getfield 3, 3) := by decide +kernel
theorem dX6_stroke_218 : decode cX6_stroke 218 = .ok (.iload_n 2, 1) := by decide +kernel
theorem dX6_stroke_219 : decode cX6_stroke 219 = .ok (.invokevirtual 92, 3) := by decide +kernel
theorem dX6_stroke_222 : decode cX6_stroke 222 = .ok (.if_icmp .gt 28, 3) := by decide +kernel
theorem dX6_stroke_225 : decode cX6_stroke 225 = .ok (.aload_n 0, 1) := by decide +kernel
theorem dX6_stroke_226 : decode cX6_stroke 226 = .ok (.getfield 50, 3) := by decide +kernel
theorem dX6_stroke_229 : decode cX6_stroke 229 = .ok (.iload_n 2, 1) := by decide +kernel
theorem dX6_stroke_230 : decode cX6_stroke 230 = .ok (.iaload, 1) := by decide +kernel
theorem dX6_stroke_231 : decode cX6_stroke 231 = .ok (.aload_n 0, 1) := by decide +kernel
theorem dX6_stroke_232 : decode cX6_stroke 232 = .ok (.getfield 3, 3) := by decide +kernel
theorem dX6_stroke_235 : decode cX6_stroke 235 = .ok (.getfield 102, 3) := by decide +kernel
theorem dX6_stroke_238 : decode cX6_stroke 238 = .ok (.iload_n 2, 1) := by decide +kernel
theorem dX6_stroke_239 : decode cX6_stroke 239 = .ok (.iaload, 1) := by decide +kernel
theorem dX6_stroke_240 : decode cX6_stroke 240 = .ok (.iconst 1, 1) := by decide +kernel
theorem dX6_stroke_241 : decode cX6_stroke 241 = .ok (.iadd, 1) := by decide +kernel
theorem dX6_stroke_242 : decode cX6_stroke 242 = .ok (.irem, 1) := by decide +kernel
theorem dX6_stroke_243 : decode cX6_stroke 243 = .ok (.ifCond .ne 7, 3) := by decide +kernel
theorem dX6_stroke_246 : decode cX6_stroke 246 = .ok (.iconst 1, 1) := by decide +kernel
theorem dX6_stroke_247 : decode cX6_stroke 247 = .ok (.goto 4, 3) := by decide +kernel
theorem dX6_stroke_250 : decode cX6_stroke 250 = .ok (.iconst 0, 1) := by decide +kernel
theorem dX6_stroke_251 : decode cX6_stroke 251 = .ok (.istore 6, 2) := by decide +kernel
theorem dX6_stroke_253 : decode cX6_stroke 253 = .ok (.aload_n 0, 1) := by decide +kernel
theorem dX6_stroke_254 : decode cX6_stroke 254 = .ok (.getfield 35, 3) := by decide +kernel
theorem dX6_stroke_257 : decode cX6_stroke 257 = .ok (.iload_n 1, 1) := by decide +kernel
theorem dX6_stroke_258 : decode cX6_stroke 258 = .ok (.aload_n 0, 1) := by decide +kernel
theorem dX6_stroke_259 : decode cX6_stroke 259 = .ok (.getfield 3, 3) := by decide +kernel
theorem dX6_stroke_262 : decode cX6_stroke 262 = .ok (.getfield 105, 3) := by decide +kernel
theorem dX6_stroke_265 : decode cX6_stroke 265 = .ok (.iload_n 2, 1) := by decide +kernel
theorem dX6_stroke_266 : decode cX6_stroke 266 = .ok (.iaload, 1) := by decide +kernel
theorem dX6_stroke_267 : decode cX6_stroke 267 = .ok (.iconst 1, 1) := by decide +kernel
theorem dX6_stroke_268 : decode cX6_stroke 268 = .ok (.isub, 1) := by decide +kernel
theorem dX6_stroke_269 : decode cX6_stroke 269 = .ok (.iload 6, 2) := by decide +kernel
theorem dX6_stroke_271 : decode cX6_stroke 271 = .ok (.ifCond .eq 15, 3) := by decide +kernel
theorem dX6_stroke_274 : decode cX6_stroke 274 = .ok (.aload_n 0, 1) := by decide +kernel
theorem dX6_stroke_275 : decode cX6_stroke 275 = .ok (.getfield 3, 3) := by decide +kernel
theorem dX6_stroke_278 : decode cX6_stroke 278 = .ok (.getfield 105, 3) := by decide +kernel
theorem dX6_stroke_281 : decode cX6_stroke 281 = .ok (.iload_n 2, 1) := by decide +kernel
theorem dX6_stroke_282 : decode cX6_stroke 282 = .ok (.iaload, 1) := by decide +kernel
theorem dX6_stroke_283 : decode cX6_stroke 283 = .ok (.goto 4, 3) := by decide +kernel
theorem dX6_stroke_286 : decode cX6_stroke 286 = .ok (.iconst 0, 1) := by decide +kernel
theorem dX6_stroke_287 : decode cX6_stroke 287 = .ok (.iadd, 1) := by decide +kernel
theorem dX6_stroke_288 : decode cX6_stroke 288 = .ok (.iastore, 1) := by decide +kernel
theorem dX6_stroke_289 : decode cX6_stroke 289 = .ok (.aload_n 0, 1) := by decide +kernel
theorem dX6_stroke_290 : decode cX6_stroke 290 = .ok (.getfield 50, 3) := by decide +kernel
theorem dX6_stroke_293 : decode cX6_stroke 293 = .ok (.iload_n 2, 1) := by decide +kernel
theorem dX6_stroke_294 : decode cX6_stroke 294 = .ok (.iaload, 1) := by decide +kernel
theorem dX6_stroke_295 : decode cX6_stroke 295 = .ok (.aload_n 0, 1) := by decide +kernel
theorem dX6_stroke_296 : decode cX6_stroke 296 = .ok (.getfield 3, 3) := by decide +kernel
theorem dX6_stroke_299 : decode cX6_stroke 299 = .ok (.iload_n 2, 1) := by decide +kernel
theorem dX6_stroke_300 : decode cX6_stroke 300 = .ok (.invokevirtual 108, 3) := by decide +kernel
theorem dX6_stroke_303 : decode cX6_stroke 303 = .ok (.if_icmp .ne 8, 3) := by decide +kernel
theorem dX6_stroke_306 : decode cX6_stroke 306 = .ok (.aload_n 0, 1) := by decide +kernel
theorem dX6_stroke_307 : decode cX6_stroke 307 = .ok (.iload_n 2, 1) := by decide +kernel
theorem dX6_stroke_308 : decode cX6_stroke 308 = .ok (.invokevirtual 111, 3) := by decide +kernel
theorem dX6_stroke_311 : decode cX6_stroke 311 = .ok (.return_, 1) := by decide +kernel
theorem dX6_bare_0 : decode cX6_bare 0 = .ok (.aload_n 0, 1) := by decide +kernel
theorem dX6_bare_1 : decode cX6_bare 1 = .ok (.getfield 23, 3) := by decide +kernel
theorem dX6_bare_4 : decode cX6_bare 4 = .ok (.iload_n 1, 1) := by decide +kernel
theorem dX6_bare_5 : decode cX6_bare 5 = .ok (.iload_n 2, 1) := by decide +kernel
theorem dX6_bare_6 : decode cX6_bare 6 = .ok (.iastore, 1) := by decide +kernel
theorem dX6_bare_7 : decode cX6_bare 7 = .ok (.aload_n 0, 1) := by decide +kernel
theorem dX6_bare_8 : decode cX6_bare 8 = .ok (.getfield 26, 3) := by decide +kernel
theorem dX6_bare_11 : decode cX6_bare 11 = .ok (.iload_n 1, 1) := by decide +kernel
theorem dX6_bare_12 : decode cX6_bare 12 = .ok (.iconst 0, 1) := by decide +kernel
theorem dX6_bare_13 : decode cX6_bare 13 = .ok (.iastore, 1) := by decide +kernel
theorem dX6_bare_14 : decode cX6_bare 14 = .ok (.return_, 1) := by decide +kernel
theorem dX6_end_0 : decode cX6_end 0 = .ok (.aload_n 0, 1) := by decide +kernel
theorem dX6_end_1 : decode cX6_end 1 = .ok (.getfield 3, 3) := by decide +kernel
theorem dX6_end_4 : decode cX6_end 4 = .ok (.getfield 75, 3) := by decide +kernel
theorem dX6_end_7 : decode cX6_end 7 = .ok (.iload_n 1, 1) := by decide +kernel
theorem dX6_end_8 : decode cX6_end 8 = .ok (.iaload, 1) := by decide +kernel
theorem dX6_end_9 : decode cX6_end 9 = .ok (.istore_n 2, 1) := by decide +kernel
theorem dX6_end_10 : decode cX6_end 10 = .ok (.aload_n 0, 1) := by decide +kernel
theorem dX6_end_11 : decode cX6_end 11 = .ok (.iload_n 2, 1) := by decide +kernel
theorem dX6_end_12 : decode cX6_end 12 = .ok (.invokevirtual 115, 3) := by decide +kernel
theorem dX6_end_15 : decode cX6_end 15 = .ok (.iload_n 1, 1) := by decide +kernel
theorem dX6_end_16 : decode cX6_end 16 = .ok (.if_icmp .ne 7, 3) := by decide +kernel
theorem dX6_end_19 : decode cX6_end 19 = .ok (.iconst 1, 1) := by decide +kernel
theorem dX6_end_20 : decode cX6_end 20 = .ok (.goto 4, 3) := by decide +kernel
theorem dX6_end_23 : decode cX6_end 23 = .ok (.iconst 0, 1) := by decide +kernel
theorem dX6_end_24 : decode cX6_end 24 = .ok (.istore_n 3, 1) := by decide +kernel
theorem dX6_end_25 : decode cX6_end 25 = .ok (.aload_n 0, 1) := by decide +kernel
theorem dX6_end_26 : decode cX6_end 26 = .ok (.getfield 56, 3) := by decide +kernel
theorem dX6_end_29 : decode cX6_end 29 = .ok (.iload_n 1, 1) := by decide +kernel
theorem dX6_end_30 : decode cX6_end 30 = .ok (.aload_n 0, 1) := by decide +kernel
theorem dX6_end_31 : decode cX6_end 31 = .ok (.getfield 65, 3) := by decide +kernel
theorem dX6_end_34 : decode cX6_end 34 = .ok (.iastore, 1) := by decide +kernel
theorem dX6_end_35 : decode cX6_end 35 = .ok (.iload_n 3, 1) := by decide +kernel
theorem dX6_end_36 : decode cX6_end 36 = .ok (.ifCond .eq 10, 3) := by decide +kernel
theorem dX6_end_39 : decode cX6_end 39 = .ok (.aload_n 0, 1) := by decide +kernel
theorem dX6_end_40 : decode cX6_end 40 = .ok (.getfield 35, 3) := by decide +kernel
theorem dX6_end_43 : decode cX6_end 43 = .ok (.iload_n 2, 1) := by decide +kernel
theorem dX6_end_44 : decode cX6_end 44 = .ok (.iconst 0, 1) := by decide +kernel
theorem dX6_end_45 : decode cX6_end 45 = .ok (.iastore, 1) := by decide +kernel
theorem dX6_end_46 : decode cX6_end 46 = .ok (.aload_n 0, 1) := by decide +kernel
theorem dX6_end_47 : decode cX6_end 47 = .ok (.iload_n 2, 1) := by decide +kernel
theorem dX6_end_48 : decode cX6_end 48 = .ok (.invokevirtual 115, 3) := by decide +kernel
theorem dX6_end_51 : decode cX6_end 51 = .ok (.iconst (-1), 1) := by decide +kernel
theorem dX6_end_52 : decode cX6_end 52 = .ok (.if_icmp .ne 10, 3) := by decide +kernel
theorem dX6_end_55 : decode cX6_end 55 = .ok (.aload_n 0, 1) := by decide +kernel
theorem dX6_end_56 : decode cX6_end 56 = .ok (.getfield 32, 3) := by decide +kernel
theorem dX6_end_59 : decode cX6_end 59 = .ok (.iload_n 2, 1) := by decide +kernel
theorem dX6_end_60 : decode cX6_end 60 = .ok (.iconst (-1), 1) := by decide +kernel
theorem dX6_end_61 : decode cX6_end 61 = .ok (.iastore, 1) := by decide +kernel
theorem dX6_end_62 : decode cX6_end 62 = .ok (.return_, 1) := by decide +kernel
theorem dX6_pass_0 : decode cX6_pass 0 = .ok (.iconst 0, 1) := by decide +kernel
theorem dX6_pass_1 : decode cX6_pass 1 = .ok (.istore_n 2, 1) := by decide +kernel
theorem dX6_pass_2 : decode cX6_pass 2 = .ok (.iconst 0, 1) := by decide +kernel
theorem dX6_pass_3 : decode cX6_pass 3 = .ok (.istore_n 3, 1) := by decide +kernel
theorem dX6_pass_4 : decode cX6_pass 4 = .ok (.iload_n 3, 1) := by decide +kernel
theorem dX6_pass_5 : decode cX6_pass 5 = .ok (.iconst 4, 1) := by decide +kernel
theorem dX6_pass_6 : decode cX6_pass 6 = .ok (.if_icmp .ge 66, 3) := by decide +kernel
theorem dX6_pass_9 : decode cX6_pass 9 = .ok (.aload_n 0, 1) := by decide +kernel
theorem dX6_pass_10 : decode cX6_pass 10 = .ok (.iload_n 3, 1) := by decide +kernel
theorem dX6_pass_11 : decode cX6_pass 11 = .ok (.invokevirtual 115, 3) := by decide +kernel
theorem dX6_pass_14 : decode cX6_pass 14 = .ok (.istore 4, 2) := by decide +kernel
theorem dX6_pass_16 : decode cX6_pass 16 = .ok (.iload 4, 2) := by decide +kernel
theorem dX6_pass_18 : decode cX6_pass 18 = .ok (.iconst (-1), 1) := by decide +kernel
theorem dX6_pass_19 : decode cX6_pass 19 = .ok (.if_icmp .ne 6, 3) := by decide +kernel
theorem dX6_pass_22 : decode cX6_pass 22 = .ok (.goto 44, 3) := by decide +kernel
theorem dX6_pass_25 : decode cX6_pass 25 = .ok (.aload_n 0, 1) := by decide +kernel
theorem dX6_pass_26 : decode cX6_pass 26 = .ok (.getfield 35, 3) := by decide +kernel
theorem dX6_pass_29 : decode cX6_pass 29 = .ok (.iload_n 3, 1) := by decide +kernel
theorem dX6_pass_30 : decode cX6_pass 30 = .ok (.iaload, 1) := by decide +kernel
theorem dX6_pass_31 : decode cX6_pass 31 = .ok (.ifCond .le 16, 3) := by decide +kernel
theorem dX6_pass_34 : decode cX6_pass 34 = .ok (.aload_n 0, 1) := by decide +kernel
theorem dX6_pass_35 : decode cX6_pass 35 = .ok (.getfield 35, 3) := by decide +kernel
theorem dX6_pass_38 : decode cX6_pass 38 = .ok (.iload_n 3, 1) := by decide +kernel
theorem dX6_pass_39 : decode cX6_pass 39 = .ok (.dup2, 1) := by decide +kernel
theorem dX6_pass_40 : decode cX6_pass 40 = .ok (.iaload, 1) := by decide +kernel
theorem dX6_pass_41 : decode cX6_pass 41 = .ok (.iconst 1, 1) := by decide +kernel
theorem dX6_pass_42 : decode cX6_pass 42 = .ok (.isub, 1) := by decide +kernel
theorem dX6_pass_43 : decode cX6_pass 43 = .ok (.iastore, 1) := by decide +kernel
theorem dX6_pass_44 : decode cX6_pass 44 = .ok (.goto 22, 3) := by decide +kernel
theorem dX6_pass_47 : decode cX6_pass 47 = .ok (.aload_n 0, 1) := by decide +kernel
theorem dX6_pass_48 : decode cX6_pass 48 = .ok (.iload_n 3, 1) := by decide +kernel
theorem dX6_pass_49 : decode cX6_pass 49 = .ok (.invokevirtual 118, 3) := by decide +kernel
theorem dX6_pass_52 : decode cX6_pass 52 = .ok (.ifCond .eq 14, 3) := by decide +kernel
theorem dX6_pass_55 : decode cX6_pass 55 = .ok (.aload_n 0, 1) := by decide +kernel
theorem dX6_pass_56 : decode cX6_pass 56 = .ok (.iload_n 3, 1) := by decide +kernel
theorem dX6_pass_57 : decode cX6_pass 57 = .ok (.iload 4, 2) := by decide +kernel
theorem dX6_pass_59 : decode cX6_pass 59 = .ok (.iload_n 1, 1) := by decide +kernel
theorem dX6_pass_60 : decode cX6_pass 60 = .ok (.invokevirtual 122, 3) := by decide +kernel
theorem dX6_pass_63 : decode cX6_pass 63 = .ok (.iinc 2 1, 3) := by decide +kernel
theorem dX6_pass_66 : decode cX6_pass 66 = .ok (.iinc 3 1, 3) := by decide +kernel
theorem dX6_pass_69 : decode cX6_pass 69 = .ok (.goto (-65), 3) := by decide +kernel
theorem dX6_pass_72 : decode cX6_pass 72 = .ok (.iconst 0, 1) := by decide +kernel
theorem dX6_pass_73 : decode cX6_pass 73 = .ok (.istore_n 3, 1) := by decide +kernel
theorem dX6_pass_74 : decode cX6_pass 74 = .ok (.iload_n 3, 1) := by decide +kernel
theorem dX6_pass_75 : decode cX6_pass 75 = .ok (.aload_n 0, 1) := by decide +kernel
theorem dX6_pass_76 : decode cX6_pass 76 = .ok (.getfield 3, 3) := by decide +kernel
theorem dX6_pass_79 : decode cX6_pass 79 = .ok (.getfield 85, 3) := by decide +kernel
theorem dX6_pass_82 : decode cX6_pass 82 = .ok (.if_icmp .ge 36, 3) := by decide +kernel
theorem dX6_pass_85 : decode cX6_pass 85 = .ok (.aload_n 0, 1) := by decide +kernel
theorem dX6_pass_86 : decode cX6_pass 86 = .ok (.iload_n 3, 1) := by decide +kernel
theorem dX6_pass_87 : decode cX6_pass 87 = .ok (.invokevirtual 88, 3) := by decide +kernel
theorem dX6_pass_90 : decode cX6_pass 90 = .ok (.iconst (-1), 1) := by decide +kernel
theorem dX6_pass_91 : decode cX6_pass 91 = .ok (.if_icmp .ne 21, 3) := by decide +kernel
theorem dX6_pass_94 : decode cX6_pass 94 = .ok (.aload_n 0, 1) := by decide +kernel
theorem dX6_pass_95 : decode cX6_pass 95 = .ok (.getfield 41, 3) := by decide +kernel
theorem dX6_pass_98 : decode cX6_pass 98 = .ok (.iload_n 3, 1) := by decide +kernel
theorem dX6_pass_99 : decode cX6_pass 99 = .ok (.iconst 0, 1) := by decide +kernel
theorem dX6_pass_100 : decode cX6_pass 100 = .ok (.aload_n 0, 1) := by decide +kernel
theorem dX6_pass_101 : decode cX6_pass 101 = .ok (.getfield 41, 3) := by decide +kernel
theorem dX6_pass_104 : decode cX6_pass 104 = .ok (.iload_n 3, 1) := by decide +kernel
theorem dX6_pass_105 : decode cX6_pass 105 = .ok (.iaload, 1) := by decide +kernel
theorem dX6_pass_106 : decode cX6_pass 106 = .ok (.iconst 2, 1) := by decide +kernel
theorem dX6_pass_107 : decode cX6_pass 107 = .ok (.isub, 1) := by decide +kernel
theorem dX6_pass_108 : decode cX6_pass 108 = .ok (.invokestatic 126, 3) := by decide +kernel
theorem dX6_pass_111 : decode cX6_pass 111 = .ok (.iastore, 1) := by decide +kernel
theorem dX6_pass_112 : decode cX6_pass 112 = .ok (.iinc 3 1, 3) := by decide +kernel
theorem dX6_pass_115 : decode cX6_pass 115 = .ok (.goto (-41), 3) := by decide +kernel
theorem dX6_pass_118 : decode cX6_pass 118 = .ok (.aload_n 0, 1) := by decide +kernel
theorem dX6_pass_119 : decode cX6_pass 119 = .ok (.dup, 1) := by decide +kernel
theorem dX6_pass_120 : decode cX6_pass 120 = .ok (.getfield 65, 3) := by decide +kernel
theorem dX6_pass_123 : decode cX6_pass 123 = .ok (.iconst 1, 1) := by decide +kernel
theorem dX6_pass_124 : decode cX6_pass 124 = .ok (.iadd, 1) := by decide +kernel
theorem dX6_pass_125 : decode cX6_pass 125 = .ok (.putfield 65, 3) := by decide +kernel
theorem dX6_pass_128 : decode cX6_pass 128 = .ok (.iload_n 2, 1) := by decide +kernel
theorem dX6_pass_129 : decode cX6_pass 129 = .ok (.ireturn, 1) := by decide +kernel
theorem dX6_counted_0 : decode cX6_counted 0 = .ok (.bipush 9, 2) := by decide +kernel
theorem dX6_counted_2 : decode cX6_counted 2 = .ok (.newarray .int, 2) := by decide +kernel
theorem dX6_counted_4 : decode cX6_counted 4 = .ok (.dup, 1) := by decide +kernel
theorem dX6_counted_5 : decode cX6_counted 5 = .ok (.iconst 0, 1) := by decide +kernel
theorem dX6_counted_6 : decode cX6_counted 6 = .ok (.aload_n 0, 1) := by decide +kernel
theorem dX6_counted_7 : decode cX6_counted 7 = .ok (.getfield 65, 3) := by decide +kernel
theorem dX6_counted_10 : decode cX6_counted 10 = .ok (.iastore, 1) := by decide +kernel
theorem dX6_counted_11 : decode cX6_counted 11 = .ok (.dup, 1) := by decide +kernel
theorem dX6_counted_12 : decode cX6_counted 12 = .ok (.iconst 1, 1) := by decide +kernel
theorem dX6_counted_13 : decode cX6_counted 13 = .ok (.aload_n 0, 1) := by decide +kernel
theorem dX6_counted_14 : decode cX6_counted 14 = .ok (.getfield 3, 3) := by decide +kernel
theorem dX6_counted_17 : decode cX6_counted 17 = .ok (.getfield 85, 3) := by decide +kernel
theorem dX6_counted_20 : decode cX6_counted 20 = .ok (.iastore, 1) := by decide +kernel
theorem dX6_counted_21 : decode cX6_counted 21 = .ok (.dup, 1) := by decide +kernel
theorem dX6_counted_22 : decode cX6_counted 22 = .ok (.iconst 2, 1) := by decide +kernel
theorem dX6_counted_23 : decode cX6_counted 23 = .ok (.iconst 0, 1) := by decide +kernel
theorem dX6_counted_24 : decode cX6_counted 24 = .ok (.iastore, 1) := by decide +kernel
theorem dX6_counted_25 : decode cX6_counted 25 = .ok (.dup, 1) := by decide +kernel
theorem dX6_counted_26 : decode cX6_counted 26 = .ok (.iconst 3, 1) := by decide +kernel
theorem dX6_counted_27 : decode cX6_counted 27 = .ok (.aload_n 0, 1) := by decide +kernel
theorem dX6_counted_28 : decode cX6_counted 28 = .ok (.getfield 68, 3) := by decide +kernel
theorem dX6_counted_31 : decode cX6_counted 31 = .ok (.iastore, 1) := by decide +kernel
theorem dX6_counted_32 : decode cX6_counted 32 = .ok (.dup, 1) := by decide +kernel
theorem dX6_counted_33 : decode cX6_counted 33 = .ok (.iconst 4, 1) := by decide +kernel
theorem dX6_counted_34 : decode cX6_counted 34 = .ok (.iconst 0, 1) := by decide +kernel
theorem dX6_counted_35 : decode cX6_counted 35 = .ok (.iastore, 1) := by decide +kernel
theorem dX6_counted_36 : decode cX6_counted 36 = .ok (.dup, 1) := by decide +kernel
theorem dX6_counted_37 : decode cX6_counted 37 = .ok (.iconst 5, 1) := by decide +kernel
theorem dX6_counted_38 : decode cX6_counted 38 = .ok (.iconst 0, 1) := by decide +kernel
theorem dX6_counted_39 : decode cX6_counted 39 = .ok (.iastore, 1) := by decide +kernel
theorem dX6_counted_40 : decode cX6_counted 40 = .ok (.dup, 1) := by decide +kernel
theorem dX6_counted_41 : decode cX6_counted 41 = .ok (.bipush 6, 2) := by decide +kernel
theorem dX6_counted_43 : decode cX6_counted 43 = .ok (.iconst 0, 1) := by decide +kernel
theorem dX6_counted_44 : decode cX6_counted 44 = .ok (.iastore, 1) := by decide +kernel
theorem dX6_counted_45 : decode cX6_counted 45 = .ok (.dup, 1) := by decide +kernel
theorem dX6_counted_46 : decode cX6_counted 46 = .ok (.bipush 7, 2) := by decide +kernel
theorem dX6_counted_48 : decode cX6_counted 48 = .ok (.aload_n 0, 1) := by decide +kernel
theorem dX6_counted_49 : decode cX6_counted 49 = .ok (.getfield 15, 3) := by decide +kernel
theorem dX6_counted_52 : decode cX6_counted 52 = .ok (.iastore, 1) := by decide +kernel
theorem dX6_counted_53 : decode cX6_counted 53 = .ok (.dup, 1) := by decide +kernel
theorem dX6_counted_54 : decode cX6_counted 54 = .ok (.bipush 8, 2) := by decide +kernel
theorem dX6_counted_56 : decode cX6_counted 56 = .ok (.iconst 0, 1) := by decide +kernel
theorem dX6_counted_57 : decode cX6_counted 57 = .ok (.iastore, 1) := by decide +kernel
theorem dX6_counted_58 : decode cX6_counted 58 = .ok (.astore_n 2, 1) := by decide +kernel
theorem dX6_counted_59 : decode cX6_counted 59 = .ok (.iconst 0, 1) := by decide +kernel
theorem dX6_counted_60 : decode cX6_counted 60 = .ok (.istore_n 3, 1) := by decide +kernel
theorem dX6_counted_61 : decode cX6_counted 61 = .ok (.iload_n 3, 1) := by decide +kernel
theorem dX6_counted_62 : decode cX6_counted 62 = .ok (.iconst 4, 1) := by decide +kernel
theorem dX6_counted_63 : decode cX6_counted 63 = .ok (.if_icmp .ge 42, 3) := by decide +kernel
theorem dX6_counted_66 : decode cX6_counted 66 = .ok (.aload_n 2, 1) := by decide +kernel
theorem dX6_counted_67 : decode cX6_counted 67 = .ok (.iconst 2, 1) := by decide +kernel
theorem dX6_counted_68 : decode cX6_counted 68 = .ok (.dup2, 1) := by decide +kernel
theorem dX6_counted_69 : decode cX6_counted 69 = .ok (.iaload, 1) := by decide +kernel
theorem dX6_counted_70 : decode cX6_counted 70 = .ok (.aload_n 0, 1) := by decide +kernel
theorem dX6_counted_71 : decode cX6_counted 71 = .ok (.getfield 32, 3) := by decide +kernel
theorem dX6_counted_74 : decode cX6_counted 74 = .ok (.iload_n 3, 1) := by decide +kernel
theorem dX6_counted_75 : decode cX6_counted 75 = .ok (.iaload, 1) := by decide +kernel
theorem dX6_counted_76 : decode cX6_counted 76 = .ok (.iconst (-1), 1) := by decide +kernel
theorem dX6_counted_77 : decode cX6_counted 77 = .ok (.if_icmp .ne 7, 3) := by decide +kernel
theorem dX6_counted_80 : decode cX6_counted 80 = .ok (.iconst 0, 1) := by decide +kernel
theorem dX6_counted_81 : decode cX6_counted 81 = .ok (.goto 4, 3) := by decide +kernel
theorem dX6_counted_84 : decode cX6_counted 84 = .ok (.iconst 1, 1) := by decide +kernel
theorem dX6_counted_85 : decode cX6_counted 85 = .ok (.iadd, 1) := by decide +kernel
theorem dX6_counted_86 : decode cX6_counted 86 = .ok (.iastore, 1) := by decide +kernel
theorem dX6_counted_87 : decode cX6_counted 87 = .ok (.aload_n 2, 1) := by decide +kernel
theorem dX6_counted_88 : decode cX6_counted 88 = .ok (.iconst 5, 1) := by decide +kernel
theorem dX6_counted_89 : decode cX6_counted 89 = .ok (.dup2, 1) := by decide +kernel
theorem dX6_counted_90 : decode cX6_counted 90 = .ok (.iaload, 1) := by decide +kernel
theorem dX6_counted_91 : decode cX6_counted 91 = .ok (.aload_n 0, 1) := by decide +kernel
theorem dX6_counted_92 : decode cX6_counted 92 = .ok (.getfield 38, 3) := by decide +kernel
theorem dX6_counted_95 : decode cX6_counted 95 = .ok (.iload_n 3, 1) := by decide +kernel
theorem dX6_counted_96 : decode cX6_counted 96 = .ok (.iaload, 1) := by decide +kernel
theorem dX6_counted_97 : decode cX6_counted 97 = .ok (.iadd, 1) := by decide +kernel
theorem dX6_counted_98 : decode cX6_counted 98 = .ok (.iastore, 1) := by decide +kernel
theorem dX6_counted_99 : decode cX6_counted 99 = .ok (.iinc 3 1, 3) := by decide +kernel
theorem dX6_counted_102 : decode cX6_counted 102 = .ok (.goto (-41), 3) := by decide +kernel
theorem dX6_counted_105 : decode cX6_counted 105 = .ok (.iconst 0, 1) := by decide +kernel
theorem dX6_counted_106 : decode cX6_counted 106 = .ok (.istore_n 3, 1) := by decide +kernel
theorem dX6_counted_107 : decode cX6_counted 107 = .ok (.iload_n 3, 1) := by decide +kernel
theorem dX6_counted_108 : decode cX6_counted 108 = .ok (.aload_n 0, 1) := by decide +kernel
theorem dX6_counted_109 : decode cX6_counted 109 = .ok (.getfield 68, 3) := by decide +kernel
theorem dX6_counted_112 : decode cX6_counted 112 = .ok (.if_icmp .ge 43, 3) := by decide +kernel
theorem dX6_counted_115 : decode cX6_counted 115 = .ok (.aload_n 2, 1) := by decide +kernel
theorem dX6_counted_116 : decode cX6_counted 116 = .ok (.iconst 4, 1) := by decide +kernel
theorem dX6_counted_117 : decode cX6_counted 117 = .ok (.dup2, 1) := by decide +kernel
theorem dX6_counted_118 : decode cX6_counted 118 = .ok (.iaload, 1) := by decide +kernel
theorem dX6_counted_119 : decode cX6_counted 119 = .ok (.aload_n 0, 1) := by decide +kernel
theorem dX6_counted_120 : decode cX6_counted 120 = .ok (.getfield 56, 3) := by decide +kernel
theorem dX6_counted_123 : decode cX6_counted 123 = .ok (.iload_n 3, 1) := by decide +kernel
theorem dX6_counted_124 : decode cX6_counted 124 = .ok (.iaload, 1) := by decide +kernel
theorem dX6_counted_125 : decode cX6_counted 125 = .ok (.iconst (-1), 1) := by decide +kernel
theorem dX6_counted_126 : decode cX6_counted 126 = .ok (.if_icmp .ne 7, 3) := by decide +kernel
theorem dX6_counted_129 : decode cX6_counted 129 = .ok (.iconst 0, 1) := by decide +kernel
theorem dX6_counted_130 : decode cX6_counted 130 = .ok (.goto 4, 3) := by decide +kernel
theorem dX6_counted_133 : decode cX6_counted 133 = .ok (.iconst 1, 1) := by decide +kernel
theorem dX6_counted_134 : decode cX6_counted 134 = .ok (.iadd, 1) := by decide +kernel
theorem dX6_counted_135 : decode cX6_counted 135 = .ok (.iastore, 1) := by decide +kernel
theorem dX6_counted_136 : decode cX6_counted 136 = .ok (.aload_n 2, 1) := by decide +kernel
theorem dX6_counted_137 : decode cX6_counted 137 = .ok (.bipush 6, 2) := by decide +kernel
theorem dX6_counted_139 : decode cX6_counted 139 = .ok (.dup2, 1) := by decide +kernel
theorem dX6_counted_140 : decode cX6_counted 140 = .ok (.iaload, 1) := by decide +kernel
theorem dX6_counted_141 : decode cX6_counted 141 = .ok (.aload_n 0, 1) := by decide +kernel
theorem dX6_counted_142 : decode cX6_counted 142 = .ok (.getfield 53, 3) := by decide +kernel
theorem dX6_counted_145 : decode cX6_counted 145 = .ok (.iload_n 3, 1) := by decide +kernel
theorem dX6_counted_146 : decode cX6_counted 146 = .ok (.iaload, 1) := by decide +kernel
theorem dX6_counted_147 : decode cX6_counted 147 = .ok (.iadd, 1) := by decide +kernel
theorem dX6_counted_148 : decode cX6_counted 148 = .ok (.iastore, 1) := by decide +kernel
theorem dX6_counted_149 : decode cX6_counted 149 = .ok (.iinc 3 1, 3) := by decide +kernel
theorem dX6_counted_152 : decode cX6_counted 152 = .ok (.goto (-45), 3) := by decide +kernel
theorem dX6_counted_155 : decode cX6_counted 155 = .ok (.aload_n 0, 1) := by decide +kernel
theorem dX6_counted_156 : decode cX6_counted 156 = .ok (.getfield 23, 3) := by decide +kernel
theorem dX6_counted_159 : decode cX6_counted 159 = .ok (.astore_n 3, 1) := by decide +kernel
theorem dX6_counted_160 : decode cX6_counted 160 = .ok (.aload_n 3, 1) := by decide +kernel
theorem dX6_counted_161 : decode cX6_counted 161 = .ok (.arraylength, 1) := by decide +kernel
theorem dX6_counted_162 : decode cX6_counted 162 = .ok (.istore 4, 2) := by decide +kernel
theorem dX6_counted_164 : decode cX6_counted 164 = .ok (.iconst 0, 1) := by decide +kernel
theorem dX6_counted_165 : decode cX6_counted 165 = .ok (.istore 5, 2) := by decide +kernel
theorem dX6_counted_167 : decode cX6_counted 167 = .ok (.iload 5, 2) := by decide +kernel
theorem dX6_counted_169 : decode cX6_counted 169 = .ok (.iload 4, 2) := by decide +kernel
theorem dX6_counted_171 : decode cX6_counted 171 = .ok (.if_icmp .ge 32, 3) := by decide +kernel
theorem dX6_counted_174 : decode cX6_counted 174 = .ok (.aload_n 3, 1) := by decide +kernel
theorem dX6_counted_175 : decode cX6_counted 175 = .ok (.iload 5, 2) := by decide +kernel
theorem dX6_counted_177 : decode cX6_counted 177 = .ok (.iaload, 1) := by decide +kernel
theorem dX6_counted_178 : decode cX6_counted 178 = .ok (.istore 6, 2) := by decide +kernel
theorem dX6_counted_180 : decode cX6_counted 180 = .ok (.aload_n 2, 1) := by decide +kernel
theorem dX6_counted_181 : decode cX6_counted 181 = .ok (.bipush 8, 2) := by decide +kernel
theorem dX6_counted_183 : decode cX6_counted 183 = .ok (.dup2, 1) := by decide +kernel
theorem dX6_counted_184 : decode cX6_counted 184 = .ok (.iaload, 1) := by decide +kernel
theorem dX6_counted_185 : decode cX6_counted 185 = .ok (.iload 6, 2) := by decide +kernel
theorem dX6_counted_187 : decode cX6_counted 187 = .ok (.ifCond .le 7, 3) := by decide +kernel
theorem dX6_counted_190 : decode cX6_counted 190 = .ok (.iconst 1, 1) := by decide +kernel
theorem dX6_counted_191 : decode cX6_counted 191 = .ok (.goto 4, 3) := by decide +kernel
theorem dX6_counted_194 : decode cX6_counted 194 = .ok (.iconst 0, 1) := by decide +kernel
theorem dX6_counted_195 : decode cX6_counted 195 = .ok (.iadd, 1) := by decide +kernel
theorem dX6_counted_196 : decode cX6_counted 196 = .ok (.iastore, 1) := by decide +kernel
theorem dX6_counted_197 : decode cX6_counted 197 = .ok (.iinc 5 1, 3) := by decide +kernel
theorem dX6_counted_200 : decode cX6_counted 200 = .ok (.goto (-33), 3) := by decide +kernel
theorem dX6_counted_203 : decode cX6_counted 203 = .ok (.aload_n 2, 1) := by decide +kernel
theorem dX6_counted_204 : decode cX6_counted 204 = .ok (.iload_n 1, 1) := by decide +kernel
theorem dX6_counted_205 : decode cX6_counted 205 = .ok (.iaload, 1) := by decide +kernel
theorem dX6_counted_206 : decode cX6_counted 206 = .ok (.ireturn, 1) := by decide +kernel
theorem dX7_init_0 : decode cX7_init 0 = .ok (.aload_n 0, 1) := by decide +kernel
theorem dX7_init_1 : decode cX7_init 1 = .ok (.invokespecial 1, 3) := by decide +kernel
theorem dX7_init_4 : decode cX7_init 4 = .ok (.aload_n 0, 1) := by decide +kernel
theorem dX7_init_5 : decode cX7_init 5 = .ok (.bipush 12, 2) := by decide +kernel
theorem dX7_init_7 : decode cX7_init 7 = .ok (.newarray .int, 2) := by decide +kernel
theorem dX7_init_9 : decode cX7_init 9 = .ok (.putfield 9, 3) := by decide +kernel
theorem dX7_init_12 : decode cX7_init 12 = .ok (.aload_n 0, 1) := by decide +kernel
theorem dX7_init_13 : decode cX7_init 13 = .ok (.bipush 21, 2) := by decide +kernel
theorem dX7_init_15 : decode cX7_init 15 = .ok (.newarray .int, 2) := by decide +kernel
theorem dX7_init_17 : decode cX7_init 17 = .ok (.putfield 13, 3) := by decide +kernel
theorem dX7_init_20 : decode cX7_init 20 = .ok (.aload_n 0, 1) := by decide +kernel
theorem dX7_init_21 : decode cX7_init 21 = .ok (.bipush 21, 2) := by decide +kernel
theorem dX7_init_23 : decode cX7_init 23 = .ok (.newarray .int, 2) := by decide +kernel
theorem dX7_init_25 : decode cX7_init 25 = .ok (.putfield 16, 3) := by decide +kernel
theorem dX7_init_28 : decode cX7_init 28 = .ok (.aload_n 0, 1) := by decide +kernel
theorem dX7_init_29 : decode cX7_init 29 = .ok (.bipush 21, 2) := by decide +kernel
theorem dX7_init_31 : decode cX7_init 31 = .ok (.newarray .int, 2) := by decide +kernel
theorem dX7_init_33 : decode cX7_init 33 = .ok (.putfield 19, 3) := by decide +kernel
theorem dX7_init_36 : decode cX7_init 36 = .ok (.aload_n 0, 1) := by decide +kernel
theorem dX7_init_37 : decode cX7_init 37 = .ok (.bipush 21, 2) := by decide +kernel
theorem dX7_init_39 : decode cX7_init 39 = .ok (.newarray .int, 2) := by decide +kernel
theorem dX7_init_41 : decode cX7_init 41 = .ok (.putfield 22, 3) := by decide +kernel
theorem dX7_init_44 : decode cX7_init 44 = .ok (.aload_n 0, 1) := by decide +kernel
theorem dX7_init_45 : decode cX7_init 45 = .ok (.sipush 1911, 3) := by decide +kernel
theorem dX7_init_48 : decode cX7_init 48 = .ok (.newarray .int, 2) := by decide +kernel
theorem dX7_init_50 : decode cX7_init 50 = .ok (.putfield 25, 3) := by decide +kernel
theorem dX7_init_53 : decode cX7_init 53 = .ok (.aload_n 0, 1) := by decide +kernel
theorem dX7_init_54 : decode cX7_init 54 = .ok (.new 28, 3) := by decide +kernel
theorem dX7_init_57 : decode cX7_init 57 = .ok (.dup, 1) := by decide +kernel
theorem dX7_init_58 : decode cX7_init 58 = .ok (.aload_n 0, 1) := by decide +kernel
theorem dX7_init_59 : decode cX7_init 59 = .ok (.invokespecial 30, 3) := by decide +kernel
theorem dX7_init_62 : decode cX7_init 62 = .ok (.putfield 33, 3) := by decide +kernel
theorem dX7_init_65 : decode cX7_init 65 = .ok (.aload_n 0, 1) := by decide +kernel
theorem dX7_init_66 : decode cX7_init 66 = .ok (.new 28, 3) := by decide +kernel
theorem dX7_init_69 : decode cX7_init 69 = .ok (.dup, 1) := by decide +kernel
theorem dX7_init_70 : decode cX7_init 70 = .ok (.aload_n 0, 1) := by decide +kernel
theorem dX7_init_71 : decode cX7_init 71 = .ok (.invokespecial 30, 3) := by decide +kernel
theorem dX7_init_74 : decode cX7_init 74 = .ok (.putfield 37, 3) := by decide +kernel
theorem dX7_init_77 : decode cX7_init 77 = .ok (.return_, 1) := by decide +kernel
theorem dX7_thrown_0 : decode cX7_thrown 0 = .ok (.aload_n 0, 1) := by decide +kernel
theorem dX7_thrown_1 : decode cX7_thrown 1 = .ok (.getfield 40, 3) := by decide +kernel
theorem dX7_thrown_4 : decode cX7_thrown 4 = .ok (.ireturn, 1) := by decide +kernel
theorem dX7_no_0 : decode cX7_no 0 = .ok (.aload_n 0, 1) := by decide +kernel
theorem dX7_no_1 : decode cX7_no 1 = .ok (.iload_n 1, 1) := by decide +kernel
theorem dX7_no_2 : decode cX7_no 2 = .ok (.putfield 40, 3) := by decide +kernel
theorem dX7_no_5 : decode cX7_no 5 = .ok (.iconst 0, 1) := by decide +kernel
theorem dX7_no_6 : decode cX7_no 6 = .ok (.ireturn, 1) := by decide +kernel
theorem dX7_isIn_0 : decode cX7_isIn 0 = .ok (.iload_n 0, 1) := by decide +kernel
theorem dX7_isIn_1 : decode cX7_isIn 1 = .ok (.iload_n 1, 1) := by decide +kernel
theorem dX7_isIn_2 : decode cX7_isIn 2 = .ok (.if_icmp .lt 12, 3) := by decide +kernel
theorem dX7_isIn_5 : decode cX7_isIn 5 = .ok (.iload_n 0, 1) := by decide +kernel
theorem dX7_isIn_6 : decode cX7_isIn 6 = .ok (.iload_n 2, 1) := by decide +kernel
theorem dX7_isIn_7 : decode cX7_isIn 7 = .ok (.if_icmp .gt 7, 3) := by decide +kernel
theorem dX7_isIn_10 : decode cX7_isIn 10 = .ok (.iconst 1, 1) := by decide +kernel
theorem dX7_isIn_11 : decode cX7_isIn 11 = .ok (.goto 4, 3) := by decide +kernel
theorem dX7_isIn_14 : decode cX7_isIn 14 = .ok (.iconst 0, 1) := by decide +kernel
theorem dX7_isIn_15 : decode cX7_isIn 15 = .ok (.ireturn, 1) := by decide +kernel
theorem dX7_isBell_0 : decode cX7_isBell 0 = .ok (.iload_n 0, 1) := by decide +kernel
theorem dX7_isBell_1 : decode cX7_isBell 1 = .ok (.iconst 0, 1) := by decide +kernel
theorem dX7_isBell_2 : decode cX7_isBell 2 = .ok (.iconst 3, 1) := by decide +kernel
theorem dX7_isBell_3 : decode cX7_isBell 3 = .ok (.invokestatic 44, 3) := by decide +kernel
theorem dX7_isBell_6 : decode cX7_isBell 6 = .ok (.ireturn, 1) := by decide +kernel
theorem dX7_isSide_0 : decode cX7_isSide 0 = .ok (.iload_n 0, 1) := by decide +kernel
theorem dX7_isSide_1 : decode cX7_isSide 1 = .ok (.iconst 0, 1) := by decide +kernel
theorem dX7_isSide_2 : decode cX7_isSide 2 = .ok (.iconst 1, 1) := by decide +kernel
theorem dX7_isSide_3 : decode cX7_isSide 3 = .ok (.invokestatic 44, 3) := by decide +kernel
theorem dX7_isSide_6 : decode cX7_isSide 6 = .ok (.ireturn, 1) := by decide +kernel
theorem dX7_isRinger_0 : decode cX7_isRinger 0 = .ok (.iload_n 1, 1) := by decide +kernel
theorem dX7_isRinger_1 : decode cX7_isRinger 1 = .ok (.iconst 0, 1) := by decide +kernel
theorem dX7_isRinger_2 : decode cX7_isRinger 2 = .ok (.aload_n 0, 1) := by decide +kernel
theorem dX7_isRinger_3 : decode cX7_isRinger 3 = .ok (.getfield 48, 3) := by decide +kernel
theorem dX7_isRinger_6 : decode cX7_isRinger 6 = .ok (.iconst 1, 1) := by decide +kernel
theorem dX7_isRinger_7 : decode cX7_isRinger 7 = .ok (.isub, 1) := by decide +kernel
theorem dX7_isRinger_8 : decode cX7_isRinger 8 = .ok (.invokestatic 44, 3) := by decide +kernel
theorem dX7_isRinger_11 : decode cX7_isRinger 11 = .ok (.ireturn, 1) := by decide +kernel
theorem dX7_isToll_0 : decode cX7_isToll 0 = .ok (.iload_n 1, 1) := by decide +kernel
theorem dX7_isToll_1 : decode cX7_isToll 1 = .ok (.iconst 0, 1) := by decide +kernel
theorem dX7_isToll_2 : decode cX7_isToll 2 = .ok (.aload_n 0, 1) := by decide +kernel
theorem dX7_isToll_3 : decode cX7_isToll 3 = .ok (.getfield 51, 3) := by decide +kernel
theorem dX7_isToll_6 : decode cX7_isToll 6 = .ok (.iconst 1, 1) := by decide +kernel
theorem dX7_isToll_7 : decode cX7_isToll 7 = .ok (.isub, 1) := by decide +kernel
theorem dX7_isToll_8 : decode cX7_isToll 8 = .ok (.invokestatic 44, 3) := by decide +kernel
theorem dX7_isToll_11 : decode cX7_isToll 11 = .ok (.ireturn, 1) := by decide +kernel
theorem dX7_isKind_0 : decode cX7_isKind 0 = .ok (.iload_n 0, 1) := by decide +kernel
theorem dX7_isKind_1 : decode cX7_isKind 1 = .ok (.iconst 0, 1) := by decide +kernel
theorem dX7_isKind_2 : decode cX7_isKind 2 = .ok (.iconst 2, 1) := by decide +kernel
theorem dX7_isKind_3 : decode cX7_isKind 3 = .ok (.invokestatic 44, 3) := by decide +kernel
theorem dX7_isKind_6 : decode cX7_isKind 6 = .ok (.ifCond .eq 26, 3) := by decide +kernel
theorem dX7_isKind_9 : decode cX7_isKind 9 = .ok (.iload_n 1, 1) := by decide +kernel
theorem dX7_isKind_10 : decode cX7_isKind 10 = .ok (.iconst 0, 1) := by decide +kernel
theorem dX7_isKind_11 : decode cX7_isKind 11 = .ok (.bipush 120, 2) := by decide +kernel
theorem dX7_isKind_13 : decode cX7_isKind 13 = .ok (.invokestatic 44, 3) := by decide +kernel
theorem dX7_isKind_16 : decode cX7_isKind 16 = .ok (.ifCond .eq 16, 3) := by decide +kernel
theorem dX7_isKind_19 : decode cX7_isKind 19 = .ok (.iload_n 2, 1) := by decide +kernel
theorem dX7_isKind_20 : decode cX7_isKind 20 = .ok (.iconst 1, 1) := by decide +kernel
theorem dX7_isKind_21 : decode cX7_isKind 21 = .ok (.iconst 5, 1) := by decide +kernel
theorem dX7_isKind_22 : decode cX7_isKind 22 = .ok (.invokestatic 44, 3) := by decide +kernel
theorem dX7_isKind_25 : decode cX7_isKind 25 = .ok (.ifCond .eq 7, 3) := by decide +kernel
theorem dX7_isKind_28 : decode cX7_isKind 28 = .ok (.iconst 1, 1) := by decide +kernel
theorem dX7_isKind_29 : decode cX7_isKind 29 = .ok (.goto 4, 3) := by decide +kernel
theorem dX7_isKind_32 : decode cX7_isKind 32 = .ok (.iconst 0, 1) := by decide +kernel
theorem dX7_isKind_33 : decode cX7_isKind 33 = .ok (.ireturn, 1) := by decide +kernel
theorem dX7_tellers_0 : decode cX7_tellers 0 = .ok (.iconst 3, 1) := by decide +kernel
theorem dX7_tellers_1 : decode cX7_tellers 1 = .ok (.aload_n 0, 1) := by decide +kernel
theorem dX7_tellers_2 : decode cX7_tellers 2 = .ok (.getfield 16, 3) := by decide +kernel
theorem dX7_tellers_5 : decode cX7_tellers 5 = .ok (.iload_n 1, 1) := by decide +kernel
theorem dX7_tellers_6 : decode cX7_tellers 6 = .ok (.iaload, 1) := by decide +kernel
theorem dX7_tellers_7 : decode cX7_tellers 7 = .ok (.iconst 1, 1) := by decide +kernel
theorem dX7_tellers_8 : decode cX7_tellers 8 = .ok (.iadd, 1) := by decide +kernel
theorem dX7_tellers_9 : decode cX7_tellers 9 = .ok (.imul, 1) := by decide +kernel
theorem dX7_tellers_10 : decode cX7_tellers 10 = .ok (.ireturn, 1) := by decide +kernel
theorem dX7_all_0 : decode cX7_all 0 = .ok (.aload_n 0, 1) := by decide +kernel
theorem dX7_all_1 : decode cX7_all 1 = .ok (.iload_n 1, 1) := by decide +kernel
theorem dX7_all_2 : decode cX7_all 2 = .ok (.invokevirtual 54, 3) := by decide +kernel
theorem dX7_all_5 : decode cX7_all 5 = .ok (.aload_n 0, 1) := by decide +kernel
theorem dX7_all_6 : decode cX7_all 6 = .ok (.getfield 19, 3) := by decide +kernel
theorem dX7_all_9 : decode cX7_all 9 = .ok (.iload_n 1, 1) := by decide +kernel
theorem dX7_all_10 : decode cX7_all 10 = .ok (.iaload, 1) := by decide +kernel
theorem dX7_all_11 : decode cX7_all 11 = .ok (.iadd, 1) := by decide +kernel
theorem dX7_all_12 : decode cX7_all 12 = .ok (.ireturn, 1) := by decide +kernel
theorem dX7_weigh_0 : decode cX7_weigh 0 = .ok (.aload_n 0, 1) := by decide +kernel
theorem dX7_weigh_1 : decode cX7_weigh 1 = .ok (.iconst 0, 1) := by decide +kernel
theorem dX7_weigh_2 : decode cX7_weigh 2 = .ok (.putfield 40, 3) := by decide +kernel
theorem dX7_weigh_5 : decode cX7_weigh 5 = .ok (.iload_n 1, 1) := by decide +kernel
theorem dX7_weigh_6 : decode cX7_weigh 6 = .ok (.invokestatic 58, 3) := by decide +kernel
theorem dX7_weigh_9 : decode cX7_weigh 9 = .ok (.ifCond .ne 9, 3) := by decide +kernel
theorem dX7_weigh_12 : decode cX7_weigh 12 = .ok (.aload_n 0, 1) := by decide +kernel
theorem dX7_weigh_13 : decode cX7_weigh 13 = .ok (.iconst 1, 1) := by decide +kernel
theorem dX7_weigh_14 : decode cX7_weigh 14 = .ok (.invokevirtual 62, 3) := by decide +kernel
theorem dX7_weigh_17 : decode cX7_weigh 17 = .ok (.ireturn, 1) := by decide +kernel
theorem dX7_weigh_18 : decode cX7_weigh 18 = .ok (.iload_n 2, 1) := by decide +kernel
theorem dX7_weigh_19 : decode cX7_weigh 19 = .ok (.iconst 1, 1) := by decide +kernel
theorem dX7_weigh_20 : decode cX7_weigh 20 = .ok (.bipush 9, 2) := by decide +kernel
theorem dX7_weigh_22 : decode cX7_weigh 22 = .ok (.invokestatic 44, 3) := by decide +kernel
theorem dX7_weigh_25 : decode cX7_weigh 25 = .ok (.ifCond .ne 9, 3) := by decide +kernel
theorem dX7_weigh_28 : decode cX7_weigh 28 = .ok (.aload_n 0, 1) := by decide +kernel
theorem dX7_weigh_29 : decode cX7_weigh 29 = .ok (.iconst 2, 1) := by decide +kernel
theorem dX7_weigh_30 : decode cX7_weigh 30 = .ok (.invokevirtual 62, 3) := by decide +kernel
theorem dX7_weigh_33 : decode cX7_weigh 33 = .ok (.ireturn, 1) := by decide +kernel
theorem dX7_weigh_34 : decode cX7_weigh 34 = .ok (.aload_n 0, 1) := by decide +kernel
theorem dX7_weigh_35 : decode cX7_weigh 35 = .ok (.getfield 33, 3) := by decide +kernel
theorem dX7_weigh_38 : decode cX7_weigh 38 = .ok (.getfield 65, 3) := by decide +kernel
theorem dX7_weigh_41 : decode cX7_weigh 41 = .ok (.iload_n 1, 1) := by decide +kernel
theorem dX7_weigh_42 : decode cX7_weigh 42 = .ok (.iaload, 1) := by decide +kernel
theorem dX7_weigh_43 : decode cX7_weigh 43 = .ok (.istore_n 3, 1) := by decide +kernel
theorem dX7_weigh_44 : decode cX7_weigh 44 = .ok (.aload_n 0, 1) := by decide +kernel
theorem dX7_weigh_45 : decode cX7_weigh 45 = .ok (.getfield 33, 3) := by decide +kernel
theorem dX7_weigh_48 : decode cX7_weigh 48 = .ok (.getfield 65, 3) := by decide +kernel
theorem dX7_weigh_51 : decode cX7_weigh 51 = .ok (.iload_n 1, 1) := by decide +kernel
theorem dX7_weigh_52 : decode cX7_weigh 52 = .ok (.iload_n 2, 1) := by decide +kernel
theorem dX7_weigh_53 : decode cX7_weigh 53 = .ok (.iastore, 1) := by decide +kernel
theorem dX7_weigh_54 : decode cX7_weigh 54 = .ok (.iload_n 3, 1) := by decide +kernel
theorem dX7_weigh_55 : decode cX7_weigh 55 = .ok (.ireturn, 1) := by decide +kernel
theorem dX7_fit_0 : decode cX7_fit 0 = .ok (.aload_n 0, 1) := by decide +kernel
theorem dX7_fit_1 : decode cX7_fit 1 = .ok (.iconst 0, 1) := by decide +kernel
theorem dX7_fit_2 : decode cX7_fit 2 = .ok (.putfield 40, 3) := by decide +kernel
theorem dX7_fit_5 : decode cX7_fit 5 = .ok (.iload_n 1, 1) := by decide +kernel
theorem dX7_fit_6 : decode cX7_fit 6 = .ok (.invokestatic 58, 3) := by decide +kernel
theorem dX7_fit_9 : decode cX7_fit 9 = .ok (.ifCond .eq 10, 3) := by decide +kernel
theorem dX7_fit_12 : decode cX7_fit 12 = .ok (.iload_n 2, 1) := by decide +kernel
theorem dX7_fit_13 : decode cX7_fit 13 = .ok (.invokestatic 68, 3) := by decide +kernel
theorem dX7_fit_16 : decode cX7_fit 16 = .ok (.ifCond .ne 9, 3) := by decide +kernel
theorem dX7_fit_19 : decode cX7_fit 19 = .ok (.aload_n 0, 1) := by decide +kernel
theorem dX7_fit_20 : decode cX7_fit 20 = .ok (.iconst 1, 1) := by decide +kernel
theorem dX7_fit_21 : decode cX7_fit 21 = .ok (.invokevirtual 62, 3) := by decide +kernel
theorem dX7_fit_24 : decode cX7_fit 24 = .ok (.ireturn, 1) := by decide +kernel
theorem dX7_fit_25 : decode cX7_fit 25 = .ok (.iload_n 3, 1) := by decide +kernel
theorem dX7_fit_26 : decode cX7_fit 26 = .ok (.iconst 0, 1) := by decide +kernel
theorem dX7_fit_27 : decode cX7_fit 27 = .ok (.bipush 9, 2) := by decide +kernel
theorem dX7_fit_29 : decode cX7_fit 29 = .ok (.invokestatic 44, 3) := by decide +kernel
theorem dX7_fit_32 : decode cX7_fit 32 = .ok (.ifCond .ne 9, 3) := by decide +kernel
theorem dX7_fit_35 : decode cX7_fit 35 = .ok (.aload_n 0, 1) := by decide +kernel
theorem dX7_fit_36 : decode cX7_fit 36 = .ok (.iconst 2, 1) := by decide +kernel
theorem dX7_fit_37 : decode cX7_fit 37 = .ok (.invokevirtual 62, 3) := by decide +kernel
theorem dX7_fit_40 : decode cX7_fit 40 = .ok (.ireturn, 1) := by decide +kernel
theorem dX7_fit_41 : decode cX7_fit 41 = .ok (.iload_n 3, 1) := by decide +kernel
theorem dX7_fit_42 : decode cX7_fit 42 = .ok (.ifCond .le 19, 3) := by decide +kernel
theorem dX7_fit_45 : decode cX7_fit 45 = .ok (.aload_n 0, 1) := by decide +kernel
theorem dX7_fit_46 : decode cX7_fit 46 = .ok (.getfield 33, 3) := by decide +kernel
theorem dX7_fit_49 : decode cX7_fit 49 = .ok (.getfield 71, 3) := by decide +kernel
theorem dX7_fit_52 : decode cX7_fit 52 = .ok (.ifCond .ne 9, 3) := by decide +kernel
theorem dX7_fit_55 : decode cX7_fit 55 = .ok (.aload_n 0, 1) := by decide +kernel
theorem dX7_fit_56 : decode cX7_fit 56 = .ok (.iconst 3, 1) := by decide +kernel
theorem dX7_fit_57 : decode cX7_fit 57 = .ok (.invokevirtual 62, 3) := by decide +kernel
theorem dX7_fit_60 : decode cX7_fit 60 = .ok (.ireturn, 1) := by decide +kernel
theorem dX7_fit_61 : decode cX7_fit 61 = .ok (.aload_n 0, 1) := by decide +kernel
theorem dX7_fit_62 : decode cX7_fit 62 = .ok (.getfield 33, 3) := by decide +kernel
theorem dX7_fit_65 : decode cX7_fit 65 = .ok (.getfield 74, 3) := by decide +kernel
theorem dX7_fit_68 : decode cX7_fit 68 = .ok (.iconst 2, 1) := by decide +kernel
theorem dX7_fit_69 : decode cX7_fit 69 = .ok (.iload_n 1, 1) := by decide +kernel
theorem dX7_fit_70 : decode cX7_fit 70 = .ok (.imul, 1) := by decide +kernel
theorem dX7_fit_71 : decode cX7_fit 71 = .ok (.iload_n 2, 1) := by decide +kernel
theorem dX7_fit_72 : decode cX7_fit 72 = .ok (.iadd, 1) := by decide +kernel
theorem dX7_fit_73 : decode cX7_fit 73 = .ok (.iaload, 1) := by decide +kernel
theorem dX7_fit_74 : decode cX7_fit 74 = .ok (.istore 4, 2) := by decide +kernel
theorem dX7_fit_76 : decode cX7_fit 76 = .ok (.aload_n 0, 1) := by decide +kernel
theorem dX7_fit_77 : decode cX7_fit 77 = .ok (.getfield 33, 3) := by decide +kernel
theorem dX7_fit_80 : decode cX7_fit 80 = .ok (.iconst 2, 1) := by decide +kernel
theorem dX7_fit_81 : decode cX7_fit 81 = .ok (.iload_n 1, 1) := by decide +kernel
theorem dX7_fit_82 : decode cX7_fit 82 = .ok (.imul, 1) := by decide +kernel
theorem dX7_fit_83 : decode cX7_fit 83 = .ok (.iload_n 2, 1) := by decide +kernel
theorem dX7_fit_84 : decode cX7_fit 84 = .ok (.iadd, 1) := by decide +kernel
theorem dX7_fit_85 : decode cX7_fit 85 = .ok (.iload_n 3, 1) := by decide +kernel
theorem dX7_fit_86 : decode cX7_fit 86 = .ok (.invokevirtual 77, 3) := by decide +kernel
theorem dX7_fit_89 : decode cX7_fit 89 = .ok (.aload_n 0, 1) := by decide +kernel
theorem dX7_fit_90 : decode cX7_fit 90 = .ok (.getfield 33, 3) := by decide +kernel
theorem dX7_fit_93 : decode cX7_fit 93 = .ok (.dup, 1) := by decide +kernel
theorem dX7_fit_94 : decode cX7_fit 94 = .ok (.getfield 71, 3) := by decide +kernel
theorem dX7_fit_97 : decode cX7_fit 97 = .ok (.iload_n 3, 1) := by decide +kernel
theorem dX7_fit_98 : decode cX7_fit 98 = .ok (.ifCond .le 7, 3) := by decide +kernel
theorem dX7_fit_101 : decode cX7_fit 101 = .ok (.iconst 1, 1) := by decide +kernel
theorem dX7_fit_102 : decode cX7_fit 102 = .ok (.goto 4, 3) := by decide +kernel
theorem dX7_fit_105 : decode cX7_fit 105 = .ok (.iconst 0, 1) := by decide +kernel
theorem dX7_fit_106 : decode cX7_fit 106 = .ok (.isub, 1) := by decide +kernel
theorem dX7_fit_107 : decode cX7_fit 107 = .ok (.putfield 71, 3) := by decide +kernel
theorem dX7_fit_110 : decode cX7_fit 110 = .ok (.iload 4, 2) := by decide +kernel
theorem dX7_fit_112 : decode cX7_fit 112 = .ok (.ireturn, 1) := by decide +kernel
theorem dX7_store_0 : decode cX7_store 0 = .ok (.aload_n 0, 1) := by decide +kernel
theorem dX7_store_1 : decode cX7_store 1 = .ok (.iconst 0, 1) := by decide +kernel
theorem dX7_store_2 : decode cX7_store 2 = .ok (.putfield 40, 3) := by decide +kernel
theorem dX7_store_5 : decode cX7_store 5 = .ok (.iload_n 1, 1) := by decide +kernel
theorem dX7_store_6 : decode cX7_store 6 = .ok (.iconst 1, 1) := by decide +kernel
theorem dX7_store_7 : decode cX7_store 7 = .ok (.bipush 50, 2) := by decide +kernel
theorem dX7_store_9 : decode cX7_store 9 = .ok (.invokestatic 44, 3) := by decide +kernel
theorem dX7_store_12 : decode cX7_store 12 = .ok (.ifCond .ne 9, 3) := by decide +kernel
theorem dX7_store_15 : decode cX7_store 15 = .ok (.aload_n 0, 1) := by decide +kernel
theorem dX7_store_16 : decode cX7_store 16 = .ok (.iconst 1, 1) := by decide +kernel
theorem dX7_store_17 : decode cX7_store 17 = .ok (.invokevirtual 62, 3) := by decide +kernel
theorem dX7_store_20 : decode cX7_store 20 = .ok (.ireturn, 1) := by decide +kernel
theorem dX7_store_21 : decode cX7_store 21 = .ok (.aload_n 0, 1) := by decide +kernel
theorem dX7_store_22 : decode cX7_store 22 = .ok (.getfield 33, 3) := by decide +kernel
theorem dX7_store_25 : decode cX7_store 25 = .ok (.bipush 99, 2) := by decide +kernel
theorem dX7_store_27 : decode cX7_store 27 = .ok (.aload_n 0, 1) := by decide +kernel
theorem dX7_store_28 : decode cX7_store 28 = .ok (.getfield 33, 3) := by decide +kernel
theorem dX7_store_31 : decode cX7_store 31 = .ok (.getfield 71, 3) := by decide +kernel
theorem dX7_store_34 : decode cX7_store 34 = .ok (.iload_n 1, 1) := by decide +kernel
theorem dX7_store_35 : decode cX7_store 35 = .ok (.iadd, 1) := by decide +kernel
theorem dX7_store_36 : decode cX7_store 36 = .ok (.invokestatic 81, 3) := by decide +kernel
theorem dX7_store_39 : decode cX7_store 39 = .ok (.putfield 71, 3) := by decide +kernel
theorem dX7_store_42 : decode cX7_store 42 = .ok (.aload_n 0, 1) := by decide +kernel
theorem dX7_store_43 : decode cX7_store 43 = .ok (.getfield 33, 3) := by decide +kernel
theorem dX7_store_46 : decode cX7_store 46 = .ok (.getfield 71, 3) := by decide +kernel
theorem dX7_store_49 : decode cX7_store 49 = .ok (.ireturn, 1) := by decide +kernel
theorem dX7_lastsOn_0 : decode cX7_lastsOn 0 = .ok (.bipush 10, 2) := by decide +kernel
theorem dX7_lastsOn_2 : decode cX7_lastsOn 2 = .ok (.aload_n 0, 1) := by decide +kernel
theorem dX7_lastsOn_3 : decode cX7_lastsOn 3 = .ok (.getfield 33, 3) := by decide +kernel
theorem dX7_lastsOn_6 : decode cX7_lastsOn 6 = .ok (.getfield 74, 3) := by decide +kernel
theorem dX7_lastsOn_9 : decode cX7_lastsOn 9 = .ok (.iconst 2, 1) := by decide +kernel
theorem dX7_lastsOn_10 : decode cX7_lastsOn 10 = .ok (.iload_n 1, 1) := by decide +kernel
theorem dX7_lastsOn_11 : decode cX7_lastsOn 11 = .ok (.imul, 1) := by decide +kernel
theorem dX7_lastsOn_12 : decode cX7_lastsOn 12 = .ok (.iload_n 2, 1) := by decide +kernel
theorem dX7_lastsOn_13 : decode cX7_lastsOn 13 = .ok (.iadd, 1) := by decide +kernel
theorem dX7_lastsOn_14 : decode cX7_lastsOn 14 = .ok (.iaload, 1) := by decide +kernel
theorem dX7_lastsOn_15 : decode cX7_lastsOn 15 = .ok (.imul, 1) := by decide +kernel
theorem dX7_lastsOn_16 : decode cX7_lastsOn 16 = .ok (.aload_n 0, 1) := by decide +kernel
theorem dX7_lastsOn_17 : decode cX7_lastsOn 17 = .ok (.getfield 33, 3) := by decide +kernel
theorem dX7_lastsOn_20 : decode cX7_lastsOn 20 = .ok (.getfield 87, 3) := by decide +kernel
theorem dX7_lastsOn_23 : decode cX7_lastsOn 23 = .ok (.iconst 2, 1) := by decide +kernel
theorem dX7_lastsOn_24 : decode cX7_lastsOn 24 = .ok (.iload_n 1, 1) := by decide +kernel
theorem dX7_lastsOn_25 : decode cX7_lastsOn 25 = .ok (.imul, 1) := by decide +kernel
theorem dX7_lastsOn_26 : decode cX7_lastsOn 26 = .ok (.iload_n 2, 1) := by decide +kernel
theorem dX7_lastsOn_27 : decode cX7_lastsOn 27 = .ok (.iadd, 1) := by decide +kernel
theorem dX7_lastsOn_28 : decode cX7_lastsOn 28 = .ok (.iaload, 1) := by decide +kernel
theorem dX7_lastsOn_29 : decode cX7_lastsOn 29 = .ok (.isub, 1) := by decide +kernel
theorem dX7_lastsOn_30 : decode cX7_lastsOn 30 = .ok (.istore_n 3, 1) := by decide +kernel
theorem dX7_lastsOn_31 : decode cX7_lastsOn 31 = .ok (.iload_n 3, 1) := by decide +kernel
theorem dX7_lastsOn_32 : decode cX7_lastsOn 32 = .ok (.aload_n 0, 1) := by decide +kernel
theorem dX7_lastsOn_33 : decode cX7_lastsOn 33 = .ok (.getfield 33, 3) := by decide +kernel
theorem dX7_lastsOn_36 : decode cX7_lastsOn 36 = .ok (.getfield 65, 3) := by decide +kernel
theorem dX7_lastsOn_39 : decode cX7_lastsOn 39 = .ok (.iload_n 1, 1) := by decide +kernel
theorem dX7_lastsOn_40 : decode cX7_lastsOn 40 = .ok (.iaload, 1) := by decide +kernel
theorem dX7_lastsOn_41 : decode cX7_lastsOn 41 = .ok (.iadd, 1) := by decide +kernel
theorem dX7_lastsOn_42 : decode cX7_lastsOn 42 = .ok (.iconst 1, 1) := by decide +kernel
theorem dX7_lastsOn_43 : decode cX7_lastsOn 43 = .ok (.isub, 1) := by decide +kernel
theorem dX7_lastsOn_44 : decode cX7_lastsOn 44 = .ok (.aload_n 0, 1) := by decide +kernel
theorem dX7_lastsOn_45 : decode cX7_lastsOn 45 = .ok (.getfield 33, 3) := by decide +kernel
theorem dX7_lastsOn_48 : decode cX7_lastsOn 48 = .ok (.getfield 65, 3) := by decide +kernel
theorem dX7_lastsOn_51 : decode cX7_lastsOn 51 = .ok (.iload_n 1, 1) := by decide +kernel
theorem dX7_lastsOn_52 : decode cX7_lastsOn 52 = .ok (.iaload, 1) := by decide +kernel
theorem dX7_lastsOn_53 : decode cX7_lastsOn 53 = .ok (.idiv, 1) := by decide +kernel
theorem dX7_lastsOn_54 : decode cX7_lastsOn 54 = .ok (.ireturn, 1) := by decide +kernel
theorem dX7_lasts_0 : decode cX7_lasts 0 = .ok (.aload_n 0, 1) := by decide +kernel
theorem dX7_lasts_1 : decode cX7_lasts 1 = .ok (.iconst 0, 1) := by decide +kernel
theorem dX7_lasts_2 : decode cX7_lasts 2 = .ok (.putfield 40, 3) := by decide +kernel
theorem dX7_lasts_5 : decode cX7_lasts 5 = .ok (.iload_n 1, 1) := by decide +kernel
theorem dX7_lasts_6 : decode cX7_lasts 6 = .ok (.invokestatic 58, 3) := by decide +kernel
theorem dX7_lasts_9 : decode cX7_lasts 9 = .ok (.ifCond .eq 19, 3) := by decide +kernel
theorem dX7_lasts_12 : decode cX7_lasts 12 = .ok (.iload_n 2, 1) := by decide +kernel
theorem dX7_lasts_13 : decode cX7_lasts 13 = .ok (.invokestatic 68, 3) := by decide +kernel
theorem dX7_lasts_16 : decode cX7_lasts 16 = .ok (.ifCond .eq 12, 3) := by decide +kernel
theorem dX7_lasts_19 : decode cX7_lasts 19 = .ok (.aload_n 0, 1) := by decide +kernel
theorem dX7_lasts_20 : decode cX7_lasts 20 = .ok (.iload_n 1, 1) := by decide +kernel
theorem dX7_lasts_21 : decode cX7_lasts 21 = .ok (.iload_n 2, 1) := by decide +kernel
theorem dX7_lasts_22 : decode cX7_lasts 22 = .ok (.invokevirtual 90, 3) := by decide +kernel
theorem dX7_lasts_25 : decode cX7_lasts 25 = .ok (.goto 8, 3) := by decide +kernel
theorem dX7_lasts_28 : decode cX7_lasts 28 = .ok (.aload_n 0, 1) := by decide +kernel
theorem dX7_lasts_29 : decode cX7_lasts 29 = .ok (.iconst 1, 1) := by decide +kernel
theorem dX7_lasts_30 : decode cX7_lasts 30 = .ok (.invokevirtual 62, 3) := by decide +kernel
theorem dX7_lasts_33 : decode cX7_lasts 33 = .ok (.ireturn, 1) := by decide +kernel
theorem dX7_bellTold_0 : decode cX7_bellTold 0 = .ok (.iconst 0, 1) := by decide +kernel
theorem dX7_bellTold_1 : decode cX7_bellTold 1 = .ok (.istore_n 3, 1) := by decide +kernel
theorem dX7_bellTold_2 : decode cX7_bellTold 2 = .ok (.iconst 0, 1) := by decide +kernel
theorem dX7_bellTold_3 : decode cX7_bellTold 3 = .ok (.istore 4, 2) := by decide +kernel
theorem dX7_bellTold_5 : decode cX7_bellTold 5 = .ok (.iload 4, 2) := by decide +kernel
theorem dX7_bellTold_7 : decode cX7_bellTold 7 = .ok (.aload_n 0, 1) := by decide +kernel
theorem dX7_bellTold_8 : decode cX7_bellTold 8 = .ok (.getfield 51, 3) := by decide +kernel
theorem dX7_bellTold_11 : decode cX7_bellTold 11 = .ok (.if_icmp .ge 42, 3) := by decide +kernel
theorem dX7_bellTold_14 : decode cX7_bellTold 14 = .ok (.iload_n 3, 1) := by decide +kernel
theorem dX7_bellTold_15 : decode cX7_bellTold 15 = .ok (.aload_n 0, 1) := by decide +kernel
theorem dX7_bellTold_16 : decode cX7_bellTold 16 = .ok (.getfield 13, 3) := by decide +kernel
theorem dX7_bellTold_19 : decode cX7_bellTold 19 = .ok (.iload 4, 2) := by decide +kernel
theorem dX7_bellTold_21 : decode cX7_bellTold 21 = .ok (.iaload, 1) := by decide +kernel
theorem dX7_bellTold_22 : decode cX7_bellTold 22 = .ok (.iload_n 1, 1) := by decide +kernel
theorem dX7_bellTold_23 : decode cX7_bellTold 23 = .ok (.if_icmp .ne 21, 3) := by decide +kernel
theorem dX7_bellTold_26 : decode cX7_bellTold 26 = .ok (.aload_n 0, 1) := by decide +kernel
theorem dX7_bellTold_27 : decode cX7_bellTold 27 = .ok (.getfield 33, 3) := by decide +kernel
theorem dX7_bellTold_30 : decode cX7_bellTold 30 = .ok (.getfield 93, 3) := by decide +kernel
theorem dX7_bellTold_33 : decode cX7_bellTold 33 = .ok (.iload 4, 2) := by decide +kernel
theorem dX7_bellTold_35 : decode cX7_bellTold 35 = .ok (.iaload, 1) := by decide +kernel
theorem dX7_bellTold_36 : decode cX7_bellTold 36 = .ok (.iconst (-1), 1) := by decide +kernel
theorem dX7_bellTold_37 : decode cX7_bellTold 37 = .ok (.if_icmp .ne 7, 3) := by decide +kernel
theorem dX7_bellTold_40 : decode cX7_bellTold 40 = .ok (.iconst 1, 1) := by decide +kernel
theorem dX7_bellTold_41 : decode cX7_bellTold 41 = .ok (.goto 4, 3) := by decide +kernel
theorem dX7_bellTold_44 : decode cX7_bellTold 44 = .ok (.iconst 0, 1) := by decide +kernel
theorem dX7_bellTold_45 : decode cX7_bellTold 45 = .ok (.iadd, 1) := by decide +kernel
theorem dX7_bellTold_46 : decode cX7_bellTold 46 = .ok (.istore_n 3, 1) := by decide +kernel
theorem dX7_bellTold_47 : decode cX7_bellTold 47 = .ok (.iinc 4 1, 3) := by decide +kernel
theorem dX7_bellTold_50 : decode cX7_bellTold 50 = .ok (.goto (-45), 3) := by decide +kernel
theorem dX7_bellTold_53 : decode cX7_bellTold 53 = .ok (.bipush 9, 2) := by decide +kernel
theorem dX7_bellTold_55 : decode cX7_bellTold 55 = .ok (.newarray .int, 2) := by decide +kernel
theorem dX7_bellTold_57 : decode cX7_bellTold 57 = .ok (.dup, 1) := by decide +kernel
theorem dX7_bellTold_58 : decode cX7_bellTold 58 = .ok (.iconst 0, 1) := by decide +kernel
theorem dX7_bellTold_59 : decode cX7_bellTold 59 = .ok (.aload_n 0, 1) := by decide +kernel
theorem dX7_bellTold_60 : decode cX7_bellTold 60 = .ok (.getfield 33, 3) := by decide +kernel
theorem dX7_bellTold_63 : decode cX7_bellTold 63 = .ok (.getfield 65, 3) := by decide +kernel
theorem dX7_bellTold_66 : decode cX7_bellTold 66 = .ok (.iload_n 1, 1) := by decide +kernel
theorem dX7_bellTold_67 : decode cX7_bellTold 67 = .ok (.iaload, 1) := by decide +kernel
theorem dX7_bellTold_68 : decode cX7_bellTold 68 = .ok (.iastore, 1) := by decide +kernel
theorem dX7_bellTold_69 : decode cX7_bellTold 69 = .ok (.dup, 1) := by decide +kernel
theorem dX7_bellTold_70 : decode cX7_bellTold 70 = .ok (.iconst 1, 1) := by decide +kernel
theorem dX7_bellTold_71 : decode cX7_bellTold 71 = .ok (.aload_n 0, 1) := by decide +kernel
theorem dX7_bellTold_72 : decode cX7_bellTold 72 = .ok (.getfield 33, 3) := by decide +kernel
theorem dX7_bellTold_75 : decode cX7_bellTold 75 = .ok (.getfield 74, 3) := by decide +kernel
theorem dX7_bellTold_78 : decode cX7_bellTold 78 = .ok (.iconst 2, 1) := by decide +kernel
theorem dX7_bellTold_79 : decode cX7_bellTold 79 = .ok (.iload_n 1, 1) := by decide +kernel
theorem dX7_bellTold_80 : decode cX7_bellTold 80 = .ok (.imul, 1) := by decide +kernel
theorem dX7_bellTold_81 : decode cX7_bellTold 81 = .ok (.iaload, 1) := by decide +kernel
theorem dX7_bellTold_82 : decode cX7_bellTold 82 = .ok (.iastore, 1) := by decide +kernel
theorem dX7_bellTold_83 : decode cX7_bellTold 83 = .ok (.dup, 1) := by decide +kernel
theorem dX7_bellTold_84 : decode cX7_bellTold 84 = .ok (.iconst 2, 1) := by decide +kernel
theorem dX7_bellTold_85 : decode cX7_bellTold 85 = .ok (.aload_n 0, 1) := by decide +kernel
theorem dX7_bellTold_86 : decode cX7_bellTold 86 = .ok (.getfield 33, 3) := by decide +kernel
theorem dX7_bellTold_89 : decode cX7_bellTold 89 = .ok (.getfield 74, 3) := by decide +kernel
theorem dX7_bellTold_92 : decode cX7_bellTold 92 = .ok (.iconst 2, 1) := by decide +kernel
theorem dX7_bellTold_93 : decode cX7_bellTold 93 = .ok (.iload_n 1, 1) := by decide +kernel
theorem dX7_bellTold_94 : decode cX7_bellTold 94 = .ok (.imul, 1) := by decide +kernel
theorem dX7_bellTold_95 : decode cX7_bellTold 95 = .ok (.iconst 1, 1) := by decide +kernel
theorem dX7_bellTold_96 : decode cX7_bellTold 96 = .ok (.iadd, 1) := by decide +kernel
theorem dX7_bellTold_97 : decode cX7_bellTold 97 = .ok (.iaload, 1) := by decide +kernel
theorem dX7_bellTold_98 : decode cX7_bellTold 98 = .ok (.iastore, 1) := by decide +kernel
theorem dX7_bellTold_99 : decode cX7_bellTold 99 = .ok (.dup, 1) := by decide +kernel
theorem dX7_bellTold_100 : decode cX7_bellTold 100 = .ok (.iconst 3, 1) := by decide +kernel
theorem dX7_bellTold_101 : decode cX7_bellTold 101 = .ok (.aload_n 0, 1) := by decide +kernel
theorem dX7_bellTold_102 : decode cX7_bellTold 102 = .ok (.getfield 33, 3) := by decide +kernel
theorem dX7_bellTold_105 : decode cX7_bellTold 105 = .ok (.getfield 96, 3) := by decide +kernel
theorem dX7_bellTold_108 : decode cX7_bellTold 108 = .ok (.iload_n 1, 1) := by decide +kernel
theorem dX7_bellTold_109 : decode cX7_bellTold 109 = .ok (.iaload, 1) := by decide +kernel
theorem dX7_bellTold_110 : decode cX7_bellTold 110 = .ok (.iastore, 1) := by decide +kernel
theorem dX7_bellTold_111 : decode cX7_bellTold 111 = .ok (.dup, 1) := by decide +kernel
theorem dX7_bellTold_112 : decode cX7_bellTold 112 = .ok (.iconst 4, 1) := by decide +kernel
theorem dX7_bellTold_113 : decode cX7_bellTold 113 = .ok (.aload_n 0, 1) := by decide +kernel
theorem dX7_bellTold_114 : decode cX7_bellTold 114 = .ok (.getfield 33, 3) := by decide +kernel
theorem dX7_bellTold_117 : decode cX7_bellTold 117 = .ok (.getfield 99, 3) := by decide +kernel
theorem dX7_bellTold_120 : decode cX7_bellTold 120 = .ok (.iload_n 1, 1) := by decide +kernel
theorem dX7_bellTold_121 : decode cX7_bellTold 121 = .ok (.iaload, 1) := by decide +kernel
theorem dX7_bellTold_122 : decode cX7_bellTold 122 = .ok (.iastore, 1) := by decide +kernel
theorem dX7_bellTold_123 : decode cX7_bellTold 123 = .ok (.dup, 1) := by decide +kernel
theorem dX7_bellTold_124 : decode cX7_bellTold 124 = .ok (.iconst 5, 1) := by decide +kernel
theorem dX7_bellTold_125 : decode cX7_bellTold 125 = .ok (.aload_n 0, 1) := by decide +kernel
theorem dX7_bellTold_126 : decode cX7_bellTold 126 = .ok (.getfield 33, 3) := by decide +kernel
theorem dX7_bellTold_129 : decode cX7_bellTold 129 = .ok (.iload_n 1, 1) := by decide +kernel
theorem dX7_bellTold_130 : decode cX7_bellTold 130 = .ok (.invokevirtual 102, 3) := by decide +kernel
theorem dX7_bellTold_133 : decode cX7_bellTold 133 = .ok (.iastore, 1) := by decide +kernel
theorem dX7_bellTold_134 : decode cX7_bellTold 134 = .ok (.dup, 1) := by decide +kernel
theorem dX7_bellTold_135 : decode cX7_bellTold 135 = .ok (.bipush 6, 2) := by decide +kernel
theorem dX7_bellTold_137 : decode cX7_bellTold 137 = .ok (.aload_n 0, 1) := by decide +kernel
theorem dX7_bellTold_138 : decode cX7_bellTold 138 = .ok (.getfield 33, 3) := by decide +kernel
theorem dX7_bellTold_141 : decode cX7_bellTold 141 = .ok (.getfield 105, 3) := by decide +kernel
theorem dX7_bellTold_144 : decode cX7_bellTold 144 = .ok (.iload_n 1, 1) := by decide +kernel
theorem dX7_bellTold_145 : decode cX7_bellTold 145 = .ok (.iaload, 1) := by decide +kernel
theorem dX7_bellTold_146 : decode cX7_bellTold 146 = .ok (.iastore, 1) := by decide +kernel
theorem dX7_bellTold_147 : decode cX7_bellTold 147 = .ok (.dup, 1) := by decide +kernel
theorem dX7_bellTold_148 : decode cX7_bellTold 148 = .ok (.bipush 7, 2) := by decide +kernel
theorem dX7_bellTold_150 : decode cX7_bellTold 150 = .ok (.iload_n 3, 1) := by decide +kernel
theorem dX7_bellTold_151 : decode cX7_bellTold 151 = .ok (.iastore, 1) := by decide +kernel
theorem dX7_bellTold_152 : decode cX7_bellTold 152 = .ok (.dup, 1) := by decide +kernel
theorem dX7_bellTold_153 : decode cX7_bellTold 153 = .ok (.bipush 8, 2) := by decide +kernel
theorem dX7_bellTold_155 : decode cX7_bellTold 155 = .ok (.aload_n 0, 1) := by decide +kernel
theorem dX7_bellTold_156 : decode cX7_bellTold 156 = .ok (.getfield 33, 3) := by decide +kernel
theorem dX7_bellTold_159 : decode cX7_bellTold 159 = .ok (.getfield 108, 3) := by decide +kernel
theorem dX7_bellTold_162 : decode cX7_bellTold 162 = .ok (.iload_n 1, 1) := by decide +kernel
theorem dX7_bellTold_163 : decode cX7_bellTold 163 = .ok (.iaload, 1) := by decide +kernel
theorem dX7_bellTold_164 : decode cX7_bellTold 164 = .ok (.iastore, 1) := by decide +kernel
theorem dX7_bellTold_165 : decode cX7_bellTold 165 = .ok (.astore 4, 2) := by decide +kernel
theorem dX7_bellTold_167 : decode cX7_bellTold 167 = .ok (.aload 4, 2) := by decide +kernel
theorem dX7_bellTold_169 : decode cX7_bellTold 169 = .ok (.iload_n 2, 1) := by decide +kernel
theorem dX7_bellTold_170 : decode cX7_bellTold 170 = .ok (.iaload, 1) := by decide +kernel
theorem dX7_bellTold_171 : decode cX7_bellTold 171 = .ok (.ireturn, 1) := by decide +kernel
theorem dX7_bell_0 : decode cX7_bell 0 = .ok (.aload_n 0, 1) := by decide +kernel
theorem dX7_bell_1 : decode cX7_bell 1 = .ok (.iconst 0, 1) := by decide +kernel
theorem dX7_bell_2 : decode cX7_bell 2 = .ok (.putfield 40, 3) := by decide +kernel
theorem dX7_bell_5 : decode cX7_bell 5 = .ok (.iload_n 1, 1) := by decide +kernel
theorem dX7_bell_6 : decode cX7_bell 6 = .ok (.invokestatic 58, 3) := by decide +kernel
theorem dX7_bell_9 : decode cX7_bell 9 = .ok (.ifCond .eq 22, 3) := by decide +kernel
theorem dX7_bell_12 : decode cX7_bell 12 = .ok (.iload_n 2, 1) := by decide +kernel
theorem dX7_bell_13 : decode cX7_bell 13 = .ok (.iconst 0, 1) := by decide +kernel
theorem dX7_bell_14 : decode cX7_bell 14 = .ok (.bipush 8, 2) := by decide +kernel
theorem dX7_bell_16 : decode cX7_bell 16 = .ok (.invokestatic 44, 3) := by decide +kernel
theorem dX7_bell_19 : decode cX7_bell 19 = .ok (.ifCond .eq 12, 3) := by decide +kernel
theorem dX7_bell_22 : decode cX7_bell 22 = .ok (.aload_n 0, 1) := by decide +kernel
theorem dX7_bell_23 : decode cX7_bell 23 = .ok (.iload_n 1, 1) := by decide +kernel
theorem dX7_bell_24 : decode cX7_bell 24 = .ok (.iload_n 2, 1) := by decide +kernel
theorem dX7_bell_25 : decode cX7_bell 25 = .ok (.invokevirtual 111, 3) := by decide +kernel
theorem dX7_bell_28 : decode cX7_bell 28 = .ok (.goto 8, 3) := by decide +kernel
theorem dX7_bell_31 : decode cX7_bell 31 = .ok (.aload_n 0, 1) := by decide +kernel
theorem dX7_bell_32 : decode cX7_bell 32 = .ok (.iconst 1, 1) := by decide +kernel
theorem dX7_bell_33 : decode cX7_bell 33 = .ok (.invokevirtual 62, 3) := by decide +kernel
theorem dX7_bell_36 : decode cX7_bell 36 = .ok (.ireturn, 1) := by decide +kernel
theorem dX7_ringer_0 : decode cX7_ringer 0 = .ok (.aload_n 0, 1) := by decide +kernel
theorem dX7_ringer_1 : decode cX7_ringer 1 = .ok (.iconst 0, 1) := by decide +kernel
theorem dX7_ringer_2 : decode cX7_ringer 2 = .ok (.putfield 40, 3) := by decide +kernel
theorem dX7_ringer_5 : decode cX7_ringer 5 = .ok (.iload_n 1, 1) := by decide +kernel
theorem dX7_ringer_6 : decode cX7_ringer 6 = .ok (.iconst 1, 1) := by decide +kernel
theorem dX7_ringer_7 : decode cX7_ringer 7 = .ok (.bipush 9, 2) := by decide +kernel
theorem dX7_ringer_9 : decode cX7_ringer 9 = .ok (.invokestatic 44, 3) := by decide +kernel
theorem dX7_ringer_12 : decode cX7_ringer 12 = .ok (.ifCond .ne 9, 3) := by decide +kernel
theorem dX7_ringer_15 : decode cX7_ringer 15 = .ok (.aload_n 0, 1) := by decide +kernel
theorem dX7_ringer_16 : decode cX7_ringer 16 = .ok (.iconst 1, 1) := by decide +kernel
theorem dX7_ringer_17 : decode cX7_ringer 17 = .ok (.invokevirtual 62, 3) := by decide +kernel
theorem dX7_ringer_20 : decode cX7_ringer 20 = .ok (.ireturn, 1) := by decide +kernel
theorem dX7_ringer_21 : decode cX7_ringer 21 = .ok (.aload_n 0, 1) := by decide +kernel
theorem dX7_ringer_22 : decode cX7_ringer 22 = .ok (.getfield 48, 3) := by decide +kernel
theorem dX7_ringer_25 : decode cX7_ringer 25 = .ok (.bipush 12, 2) := by decide +kernel
theorem dX7_ringer_27 : decode cX7_ringer 27 = .ok (.if_icmp .ne 9, 3) := by decide +kernel
theorem dX7_ringer_30 : decode cX7_ringer 30 = .ok (.aload_n 0, 1) := by decide +kernel
theorem dX7_ringer_31 : decode cX7_ringer 31 = .ok (.iconst 2, 1) := by decide +kernel
theorem dX7_ringer_32 : decode cX7_ringer 32 = .ok (.invokevirtual 62, 3) := by decide +kernel
theorem dX7_ringer_35 : decode cX7_ringer 35 = .ok (.ireturn, 1) := by decide +kernel
theorem dX7_ringer_36 : decode cX7_ringer 36 = .ok (.aload_n 0, 1) := by decide +kernel
theorem dX7_ringer_37 : decode cX7_ringer 37 = .ok (.getfield 9, 3) := by decide +kernel
theorem dX7_ringer_40 : decode cX7_ringer 40 = .ok (.aload_n 0, 1) := by decide +kernel
theorem dX7_ringer_41 : decode cX7_ringer 41 = .ok (.getfield 48, 3) := by decide +kernel
theorem dX7_ringer_44 : decode cX7_ringer 44 = .ok (.iload_n 1, 1) := by decide +kernel
theorem dX7_ringer_45 : decode cX7_ringer 45 = .ok (.iastore, 1) := by decide +kernel
theorem dX7_ringer_46 : decode cX7_ringer 46 = .ok (.aload_n 0, 1) := by decide +kernel
theorem dX7_ringer_47 : decode cX7_ringer 47 = .ok (.dup, 1) := by decide +kernel
theorem dX7_ringer_48 : decode cX7_ringer 48 = .ok (.getfield 48, 3) := by decide +kernel
theorem dX7_ringer_51 : decode cX7_ringer 51 = .ok (.iconst 1, 1) := by decide +kernel
theorem dX7_ringer_52 : decode cX7_ringer 52 = .ok (.iadd, 1) := by decide +kernel
theorem dX7_ringer_53 : decode cX7_ringer 53 = .ok (.putfield 48, 3) := by decide +kernel
theorem dX7_ringer_56 : decode cX7_ringer 56 = .ok (.aload_n 0, 1) := by decide +kernel
theorem dX7_ringer_57 : decode cX7_ringer 57 = .ok (.getfield 48, 3) := by decide +kernel
theorem dX7_ringer_60 : decode cX7_ringer 60 = .ok (.iconst 1, 1) := by decide +kernel
theorem dX7_ringer_61 : decode cX7_ringer 61 = .ok (.isub, 1) := by decide +kernel
theorem dX7_ringer_62 : decode cX7_ringer 62 = .ok (.ireturn, 1) := by decide +kernel
theorem dX7_send_0 : decode cX7_send 0 = .ok (.aload_n 0, 1) := by decide +kernel
theorem dX7_send_1 : decode cX7_send 1 = .ok (.iconst 0, 1) := by decide +kernel
theorem dX7_send_2 : decode cX7_send 2 = .ok (.putfield 40, 3) := by decide +kernel
theorem dX7_send_5 : decode cX7_send 5 = .ok (.iload_n 1, 1) := by decide +kernel
theorem dX7_send_6 : decode cX7_send 6 = .ok (.invokestatic 58, 3) := by decide +kernel
theorem dX7_send_9 : decode cX7_send 9 = .ok (.ifCond .eq 11, 3) := by decide +kernel
theorem dX7_send_12 : decode cX7_send 12 = .ok (.aload_n 0, 1) := by decide +kernel
theorem dX7_send_13 : decode cX7_send 13 = .ok (.iload_n 2, 1) := by decide +kernel
theorem dX7_send_14 : decode cX7_send 14 = .ok (.invokevirtual 114, 3) := by decide +kernel
theorem dX7_send_17 : decode cX7_send 17 = .ok (.ifCond .ne 9, 3) := by decide +kernel
theorem dX7_send_20 : decode cX7_send 20 = .ok (.aload_n 0, 1) := by decide +kernel
theorem dX7_send_21 : decode cX7_send 21 = .ok (.iconst 1, 1) := by decide +kernel
theorem dX7_send_22 : decode cX7_send 22 = .ok (.invokevirtual 62, 3) := by decide +kernel
theorem dX7_send_25 : decode cX7_send 25 = .ok (.ireturn, 1) := by decide +kernel
theorem dX7_send_26 : decode cX7_send 26 = .ok (.aload_n 0, 1) := by decide +kernel
theorem dX7_send_27 : decode cX7_send 27 = .ok (.getfield 33, 3) := by decide +kernel
theorem dX7_send_30 : decode cX7_send 30 = .ok (.iload_n 2, 1) := by decide +kernel
theorem dX7_send_31 : decode cX7_send 31 = .ok (.invokevirtual 117, 3) := by decide +kernel
theorem dX7_send_34 : decode cX7_send 34 = .ok (.iconst (-1), 1) := by decide +kernel
theorem dX7_send_35 : decode cX7_send 35 = .ok (.if_icmp .eq 9, 3) := by decide +kernel
theorem dX7_send_38 : decode cX7_send 38 = .ok (.aload_n 0, 1) := by decide +kernel
theorem dX7_send_39 : decode cX7_send 39 = .ok (.iconst 2, 1) := by decide +kernel
theorem dX7_send_40 : decode cX7_send 40 = .ok (.invokevirtual 62, 3) := by decide +kernel
theorem dX7_send_43 : decode cX7_send 43 = .ok (.ireturn, 1) := by decide +kernel
theorem dX7_send_44 : decode cX7_send 44 = .ok (.aload_n 0, 1) := by decide +kernel
theorem dX7_send_45 : decode cX7_send 45 = .ok (.getfield 33, 3) := by decide +kernel
theorem dX7_send_48 : decode cX7_send 48 = .ok (.getfield 99, 3) := by decide +kernel
theorem dX7_send_51 : decode cX7_send 51 = .ok (.iload_n 1, 1) := by decide +kernel
theorem dX7_send_52 : decode cX7_send 52 = .ok (.iaload, 1) := by decide +kernel
theorem dX7_send_53 : decode cX7_send 53 = .ok (.istore_n 3, 1) := by decide +kernel
theorem dX7_send_54 : decode cX7_send 54 = .ok (.aload_n 0, 1) := by decide +kernel
theorem dX7_send_55 : decode cX7_send 55 = .ok (.getfield 33, 3) := by decide +kernel
theorem dX7_send_58 : decode cX7_send 58 = .ok (.getfield 99, 3) := by decide +kernel
theorem dX7_send_61 : decode cX7_send 61 = .ok (.iload_n 1, 1) := by decide +kernel
theorem dX7_send_62 : decode cX7_send 62 = .ok (.iload_n 2, 1) := by decide +kernel
theorem dX7_send_63 : decode cX7_send 63 = .ok (.iastore, 1) := by decide +kernel
theorem dX7_send_64 : decode cX7_send 64 = .ok (.iload_n 3, 1) := by decide +kernel
theorem dX7_send_65 : decode cX7_send 65 = .ok (.ireturn, 1) := by decide +kernel
theorem dX7_ringerTold_0 : decode cX7_ringerTold 0 = .ok (.iconst 5, 1) := by decide +kernel
theorem dX7_ringerTold_1 : decode cX7_ringerTold 1 = .ok (.newarray .int, 2) := by decide +kernel
theorem dX7_ringerTold_3 : decode cX7_ringerTold 3 = .ok (.dup, 1) := by decide +kernel
theorem dX7_ringerTold_4 : decode cX7_ringerTold 4 = .ok (.iconst 0, 1) := by decide +kernel
theorem dX7_ringerTold_5 : decode cX7_ringerTold 5 = .ok (.aload_n 0, 1) := by decide +kernel
theorem dX7_ringerTold_6 : decode cX7_ringerTold 6 = .ok (.getfield 9, 3) := by decide +kernel
theorem dX7_ringerTold_9 : decode cX7_ringerTold 9 = .ok (.iload_n 1, 1) := by decide +kernel
theorem dX7_ringerTold_10 : decode cX7_ringerTold 10 = .ok (.iaload, 1) := by decide +kernel
theorem dX7_ringerTold_11 : decode cX7_ringerTold 11 = .ok (.iastore, 1) := by decide +kernel
theorem dX7_ringerTold_12 : decode cX7_ringerTold 12 = .ok (.dup, 1) := by decide +kernel
theorem dX7_ringerTold_13 : decode cX7_ringerTold 13 = .ok (.iconst 1, 1) := by decide +kernel
theorem dX7_ringerTold_14 : decode cX7_ringerTold 14 = .ok (.aload_n 0, 1) := by decide +kernel
theorem dX7_ringerTold_15 : decode cX7_ringerTold 15 = .ok (.getfield 33, 3) := by decide +kernel
theorem dX7_ringerTold_18 : decode cX7_ringerTold 18 = .ok (.getfield 120, 3) := by decide +kernel
theorem dX7_ringerTold_21 : decode cX7_ringerTold 21 = .ok (.iload_n 1, 1) := by decide +kernel
theorem dX7_ringerTold_22 : decode cX7_ringerTold 22 = .ok (.iaload, 1) := by decide +kernel
theorem dX7_ringerTold_23 : decode cX7_ringerTold 23 = .ok (.iastore, 1) := by decide +kernel
theorem dX7_ringerTold_24 : decode cX7_ringerTold 24 = .ok (.dup, 1) := by decide +kernel
theorem dX7_ringerTold_25 : decode cX7_ringerTold 25 = .ok (.iconst 2, 1) := by decide +kernel
theorem dX7_ringerTold_26 : decode cX7_ringerTold 26 = .ok (.aload_n 0, 1) := by decide +kernel
theorem dX7_ringerTold_27 : decode cX7_ringerTold 27 = .ok (.getfield 33, 3) := by decide +kernel
theorem dX7_ringerTold_30 : decode cX7_ringerTold 30 = .ok (.iload_n 1, 1) := by decide +kernel
theorem dX7_ringerTold_31 : decode cX7_ringerTold 31 = .ok (.invokevirtual 117, 3) := by decide +kernel
theorem dX7_ringerTold_34 : decode cX7_ringerTold 34 = .ok (.iastore, 1) := by decide +kernel
theorem dX7_ringerTold_35 : decode cX7_ringerTold 35 = .ok (.dup, 1) := by decide +kernel
theorem dX7_ringerTold_36 : decode cX7_ringerTold 36 = .ok (.iconst 3, 1) := by decide +kernel
theorem dX7_ringerTold_37 : decode cX7_ringerTold 37 = .ok (.aload_n 0, 1) := by decide +kernel
theorem dX7_ringerTold_38 : decode cX7_ringerTold 38 = .ok (.getfield 33, 3) := by decide +kernel
theorem dX7_ringerTold_41 : decode cX7_ringerTold 41 = .ok (.getfield 123, 3) := by decide +kernel
theorem dX7_ringerTold_44 : decode cX7_ringerTold 44 = .ok (.iload_n 1, 1) := by decide +kernel
theorem dX7_ringerTold_45 : decode cX7_ringerTold 45 = .ok (.iaload, 1) := by decide +kernel
theorem dX7_ringerTold_46 : decode cX7_ringerTold 46 = .ok (.iastore, 1) := by decide +kernel
theorem dX7_ringerTold_47 : decode cX7_ringerTold 47 = .ok (.dup, 1) := by decide +kernel
theorem dX7_ringerTold_48 : decode cX7_ringerTold 48 = .ok (.iconst 4, 1) := by decide +kernel
theorem dX7_ringerTold_49 : decode cX7_ringerTold 49 = .ok (.aload_n 0, 1) := by decide +kernel
theorem dX7_ringerTold_50 : decode cX7_ringerTold 50 = .ok (.getfield 33, 3) := by decide +kernel
theorem dX7_ringerTold_53 : decode cX7_ringerTold 53 = .ok (.getfield 126, 3) := by decide +kernel
theorem dX7_ringerTold_56 : decode cX7_ringerTold 56 = .ok (.iload_n 1, 1) := by decide +kernel
theorem dX7_ringerTold_57 : decode cX7_ringerTold 57 = .ok (.iaload, 1) := by decide +kernel
theorem dX7_ringerTold_58 : decode cX7_ringerTold 58 = .ok (.iastore, 1) := by decide +kernel
theorem dX7_ringerTold_59 : decode cX7_ringerTold 59 = .ok (.astore_n 3, 1) := by decide +kernel
theorem dX7_ringerTold_60 : decode cX7_ringerTold 60 = .ok (.aload_n 3, 1) := by decide +kernel
theorem dX7_ringerTold_61 : decode cX7_ringerTold 61 = .ok (.iload_n 2, 1) := by decide +kernel
theorem dX7_ringerTold_62 : decode cX7_ringerTold 62 = .ok (.iaload, 1) := by decide +kernel
theorem dX7_ringerTold_63 : decode cX7_ringerTold 63 = .ok (.ireturn, 1) := by decide +kernel
theorem dX7_told_0 : decode cX7_told 0 = .ok (.aload_n 0, 1) := by decide +kernel
theorem dX7_told_1 : decode cX7_told 1 = .ok (.iconst 0, 1) := by decide +kernel
theorem dX7_told_2 : decode cX7_told 2 = .ok (.putfield 40, 3) := by decide +kernel
theorem dX7_told_5 : decode cX7_told 5 = .ok (.aload_n 0, 1) := by decide +kernel
theorem dX7_told_6 : decode cX7_told 6 = .ok (.iload_n 1, 1) := by decide +kernel
theorem dX7_told_7 : decode cX7_told 7 = .ok (.invokevirtual 114, 3) := by decide +kernel
theorem dX7_told_10 : decode cX7_told 10 = .ok (.ifCond .eq 21, 3) := by decide +kernel
theorem dX7_told_13 : decode cX7_told 13 = .ok (.iload_n 2, 1) := by decide +kernel
theorem dX7_told_14 : decode cX7_told 14 = .ok (.iconst 0, 1) := by decide +kernel
theorem dX7_told_15 : decode cX7_told 15 = .ok (.iconst 4, 1) := by decide +kernel
theorem dX7_told_16 : decode cX7_told 16 = .ok (.invokestatic 44, 3) := by decide +kernel
theorem dX7_told_19 : decode cX7_told 19 = .ok (.ifCond .eq 12, 3) := by decide +kernel
theorem dX7_told_22 : decode cX7_told 22 = .ok (.aload_n 0, 1) := by decide +kernel
theorem dX7_told_23 : decode cX7_told 23 = .ok (.iload_n 1, 1) := by decide +kernel
theorem dX7_told_24 : decode cX7_told 24 = .ok (.iload_n 2, 1) := by decide +kernel
theorem dX7_told_25 : decode cX7_told 25 = .ok (.invokevirtual 129, 3) := by decide +kernel
theorem dX7_told_28 : decode cX7_told 28 = .ok (.goto 8, 3) := by decide +kernel
theorem dX7_told_31 : decode cX7_told 31 = .ok (.aload_n 0, 1) := by decide +kernel
theorem dX7_told_32 : decode cX7_told 32 = .ok (.iconst 1, 1) := by decide +kernel
theorem dX7_told_33 : decode cX7_told 33 = .ok (.invokevirtual 62, 3) := by decide +kernel
theorem dX7_told_36 : decode cX7_told 36 = .ok (.ireturn, 1) := by decide +kernel
theorem dX7_tell_0 : decode cX7_tell 0 = .ok (.aload_n 0, 1) := by decide +kernel
theorem dX7_tell_1 : decode cX7_tell 1 = .ok (.getfield 13, 3) := by decide +kernel
theorem dX7_tell_4 : decode cX7_tell 4 = .ok (.iload_n 1, 1) := by decide +kernel
theorem dX7_tell_5 : decode cX7_tell 5 = .ok (.iload_n 2, 1) := by decide +kernel
theorem dX7_tell_6 : decode cX7_tell 6 = .ok (.iastore, 1) := by decide +kernel
theorem dX7_tell_7 : decode cX7_tell 7 = .ok (.aload_n 0, 1) := by decide +kernel
theorem dX7_tell_8 : decode cX7_tell 8 = .ok (.getfield 16, 3) := by decide +kernel
theorem dX7_tell_11 : decode cX7_tell 11 = .ok (.iload_n 1, 1) := by decide +kernel
theorem dX7_tell_12 : decode cX7_tell 12 = .ok (.iload_n 3, 1) := by decide +kernel
theorem dX7_tell_13 : decode cX7_tell 13 = .ok (.iastore, 1) := by decide +kernel
theorem dX7_tell_14 : decode cX7_tell 14 = .ok (.aload_n 0, 1) := by decide +kernel
theorem dX7_tell_15 : decode cX7_tell 15 = .ok (.getfield 19, 3) := by decide +kernel
theorem dX7_tell_18 : decode cX7_tell 18 = .ok (.iload_n 1, 1) := by decide +kernel
theorem dX7_tell_19 : decode cX7_tell 19 = .ok (.iload 4, 2) := by decide +kernel
theorem dX7_tell_21 : decode cX7_tell 21 = .ok (.iastore, 1) := by decide +kernel
theorem dX7_tell_22 : decode cX7_tell 22 = .ok (.aload_n 0, 1) := by decide +kernel
theorem dX7_tell_23 : decode cX7_tell 23 = .ok (.getfield 22, 3) := by decide +kernel
theorem dX7_tell_26 : decode cX7_tell 26 = .ok (.iload_n 1, 1) := by decide +kernel
theorem dX7_tell_27 : decode cX7_tell 27 = .ok (.iload 5, 2) := by decide +kernel
theorem dX7_tell_29 : decode cX7_tell 29 = .ok (.iastore, 1) := by decide +kernel
theorem dX7_tell_30 : decode cX7_tell 30 = .ok (.return_, 1) := by decide +kernel
theorem dX7_toll_0 : decode cX7_toll 0 = .ok (.aload_n 0, 1) := by decide +kernel
theorem dX7_toll_1 : decode cX7_toll 1 = .ok (.iconst 0, 1) := by decide +kernel
theorem dX7_toll_2 : decode cX7_toll 2 = .ok (.putfield 40, 3) := by decide +kernel
theorem dX7_toll_5 : decode cX7_toll 5 = .ok (.iload_n 1, 1) := by decide +kernel
theorem dX7_toll_6 : decode cX7_toll 6 = .ok (.invokestatic 58, 3) := by decide +kernel
theorem dX7_toll_9 : decode cX7_toll 9 = .ok (.ifCond .ne 9, 3) := by decide +kernel
theorem dX7_toll_12 : decode cX7_toll 12 = .ok (.aload_n 0, 1) := by decide +kernel
theorem dX7_toll_13 : decode cX7_toll 13 = .ok (.iconst 1, 1) := by decide +kernel
theorem dX7_toll_14 : decode cX7_toll 14 = .ok (.invokevirtual 62, 3) := by decide +kernel
theorem dX7_toll_17 : decode cX7_toll 17 = .ok (.ireturn, 1) := by decide +kernel
theorem dX7_toll_18 : decode cX7_toll 18 = .ok (.iload_n 2, 1) := by decide +kernel
theorem dX7_toll_19 : decode cX7_toll 19 = .ok (.iload_n 3, 1) := by decide +kernel
theorem dX7_toll_20 : decode cX7_toll 20 = .ok (.iload 4, 2) := by decide +kernel
theorem dX7_toll_22 : decode cX7_toll 22 = .ok (.invokestatic 132, 3) := by decide +kernel
theorem dX7_toll_25 : decode cX7_toll 25 = .ok (.ifCond .ne 9, 3) := by decide +kernel
theorem dX7_toll_28 : decode cX7_toll 28 = .ok (.aload_n 0, 1) := by decide +kernel
theorem dX7_toll_29 : decode cX7_toll 29 = .ok (.iconst 2, 1) := by decide +kernel
theorem dX7_toll_30 : decode cX7_toll 30 = .ok (.invokevirtual 62, 3) := by decide +kernel
theorem dX7_toll_33 : decode cX7_toll 33 = .ok (.ireturn, 1) := by decide +kernel
theorem dX7_toll_34 : decode cX7_toll 34 = .ok (.aload_n 0, 1) := by decide +kernel
theorem dX7_toll_35 : decode cX7_toll 35 = .ok (.getfield 51, 3) := by decide +kernel
theorem dX7_toll_38 : decode cX7_toll 38 = .ok (.bipush 20, 2) := by decide +kernel
theorem dX7_toll_40 : decode cX7_toll 40 = .ok (.if_icmp .ne 9, 3) := by decide +kernel
theorem dX7_toll_43 : decode cX7_toll 43 = .ok (.aload_n 0, 1) := by decide +kernel
theorem dX7_toll_44 : decode cX7_toll 44 = .ok (.iconst 3, 1) := by decide +kernel
theorem dX7_toll_45 : decode cX7_toll 45 = .ok (.invokevirtual 62, 3) := by decide +kernel
theorem dX7_toll_48 : decode cX7_toll 48 = .ok (.ireturn, 1) := by decide +kernel
theorem dX7_toll_49 : decode cX7_toll 49 = .ok (.aload_n 0, 1) := by decide +kernel
theorem dX7_toll_50 : decode cX7_toll 50 = .ok (.aload_n 0, 1) := by decide +kernel
theorem dX7_toll_51 : decode cX7_toll 51 = .ok (.getfield 51, 3) := by decide +kernel
theorem dX7_toll_54 : decode cX7_toll 54 = .ok (.iload_n 1, 1) := by decide +kernel
theorem dX7_toll_55 : decode cX7_toll 55 = .ok (.iload_n 2, 1) := by decide +kernel
theorem dX7_toll_56 : decode cX7_toll 56 = .ok (.iload_n 3, 1) := by decide +kernel
theorem dX7_toll_57 : decode cX7_toll 57 = .ok (.iload 4, 2) := by decide +kernel
theorem dX7_toll_59 : decode cX7_toll 59 = .ok (.invokevirtual 135, 3) := by decide +kernel
theorem dX7_toll_62 : decode cX7_toll 62 = .ok (.aload_n 0, 1) := by decide +kernel
theorem dX7_toll_63 : decode cX7_toll 63 = .ok (.dup, 1) := by decide +kernel
theorem dX7_toll_64 : decode cX7_toll 64 = .ok (.getfield 51, 3) := by decide +kernel
theorem dX7_toll_67 : decode cX7_toll 67 = .ok (.iconst 1, 1) := by decide +kernel
theorem dX7_toll_68 : decode cX7_toll 68 = .ok (.iadd, 1) := by decide +kernel
theorem dX7_toll_69 : decode cX7_toll 69 = .ok (.putfield 51, 3) := by decide +kernel
theorem dX7_toll_72 : decode cX7_toll 72 = .ok (.aload_n 0, 1) := by decide +kernel
theorem dX7_toll_73 : decode cX7_toll 73 = .ok (.getfield 33, 3) := by decide +kernel
theorem dX7_toll_76 : decode cX7_toll 76 = .ok (.invokevirtual 139, 3) := by decide +kernel
theorem dX7_toll_79 : decode cX7_toll 79 = .ok (.ireturn, 1) := by decide +kernel
theorem dX7_stop_0 : decode cX7_stop 0 = .ok (.aload_n 0, 1) := by decide +kernel
theorem dX7_stop_1 : decode cX7_stop 1 = .ok (.iconst 0, 1) := by decide +kernel
theorem dX7_stop_2 : decode cX7_stop 2 = .ok (.putfield 40, 3) := by decide +kernel
theorem dX7_stop_5 : decode cX7_stop 5 = .ok (.aload_n 0, 1) := by decide +kernel
theorem dX7_stop_6 : decode cX7_stop 6 = .ok (.iload_n 1, 1) := by decide +kernel
theorem dX7_stop_7 : decode cX7_stop 7 = .ok (.invokevirtual 143, 3) := by decide +kernel
theorem dX7_stop_10 : decode cX7_stop 10 = .ok (.ifCond .ne 9, 3) := by decide +kernel
theorem dX7_stop_13 : decode cX7_stop 13 = .ok (.aload_n 0, 1) := by decide +kernel
theorem dX7_stop_14 : decode cX7_stop 14 = .ok (.iconst 1, 1) := by decide +kernel
theorem dX7_stop_15 : decode cX7_stop 15 = .ok (.invokevirtual 62, 3) := by decide +kernel
theorem dX7_stop_18 : decode cX7_stop 18 = .ok (.ireturn, 1) := by decide +kernel
theorem dX7_stop_19 : decode cX7_stop 19 = .ok (.aload_n 0, 1) := by decide +kernel
theorem dX7_stop_20 : decode cX7_stop 20 = .ok (.getfield 33, 3) := by decide +kernel
theorem dX7_stop_23 : decode cX7_stop 23 = .ok (.getfield 93, 3) := by decide +kernel
theorem dX7_stop_26 : decode cX7_stop 26 = .ok (.iload_n 1, 1) := by decide +kernel
theorem dX7_stop_27 : decode cX7_stop 27 = .ok (.iaload, 1) := by decide +kernel
theorem dX7_stop_28 : decode cX7_stop 28 = .ok (.iconst (-1), 1) := by decide +kernel
theorem dX7_stop_29 : decode cX7_stop 29 = .ok (.if_icmp .eq 9, 3) := by decide +kernel
theorem dX7_stop_32 : decode cX7_stop 32 = .ok (.aload_n 0, 1) := by decide +kernel
theorem dX7_stop_33 : decode cX7_stop 33 = .ok (.iconst 2, 1) := by decide +kernel
theorem dX7_stop_34 : decode cX7_stop 34 = .ok (.invokevirtual 62, 3) := by decide +kernel
theorem dX7_stop_37 : decode cX7_stop 37 = .ok (.ireturn, 1) := by decide +kernel
theorem dX7_stop_38 : decode cX7_stop 38 = .ok (.aload_n 0, 1) := by decide +kernel
theorem dX7_stop_39 : decode cX7_stop 39 = .ok (.getfield 33, 3) := by decide +kernel
theorem dX7_stop_42 : decode cX7_stop 42 = .ok (.iload_n 1, 1) := by decide +kernel
theorem dX7_stop_43 : decode cX7_stop 43 = .ok (.invokevirtual 146, 3) := by decide +kernel
theorem dX7_stop_46 : decode cX7_stop 46 = .ok (.aload_n 0, 1) := by decide +kernel
theorem dX7_stop_47 : decode cX7_stop 47 = .ok (.iload_n 1, 1) := by decide +kernel
theorem dX7_stop_48 : decode cX7_stop 48 = .ok (.invokevirtual 150, 3) := by decide +kernel
theorem dX7_stop_51 : decode cX7_stop 51 = .ok (.aload_n 0, 1) := by decide +kernel
theorem dX7_stop_52 : decode cX7_stop 52 = .ok (.getfield 33, 3) := by decide +kernel
theorem dX7_stop_55 : decode cX7_stop 55 = .ok (.getfield 153, 3) := by decide +kernel
theorem dX7_stop_58 : decode cX7_stop 58 = .ok (.iload_n 1, 1) := by decide +kernel
theorem dX7_stop_59 : decode cX7_stop 59 = .ok (.iaload, 1) := by decide +kernel
theorem dX7_stop_60 : decode cX7_stop 60 = .ok (.isub, 1) := by decide +kernel
theorem dX7_stop_61 : decode cX7_stop 61 = .ok (.ireturn, 1) := by decide +kernel
theorem dX7_tollTold_0 : decode cX7_tollTold 0 = .ok (.aload_n 0, 1) := by decide +kernel
theorem dX7_tollTold_1 : decode cX7_tollTold 1 = .ok (.getfield 33, 3) := by decide +kernel
theorem dX7_tollTold_4 : decode cX7_tollTold 4 = .ok (.getfield 93, 3) := by decide +kernel
theorem dX7_tollTold_7 : decode cX7_tollTold 7 = .ok (.iload_n 1, 1) := by decide +kernel
theorem dX7_tollTold_8 : decode cX7_tollTold 8 = .ok (.iaload, 1) := by decide +kernel
theorem dX7_tollTold_9 : decode cX7_tollTold 9 = .ok (.iconst (-1), 1) := by decide +kernel
theorem dX7_tollTold_10 : decode cX7_tollTold 10 = .ok (.if_icmp .eq 7, 3) := by decide +kernel
theorem dX7_tollTold_13 : decode cX7_tollTold 13 = .ok (.iconst 2, 1) := by decide +kernel
theorem dX7_tollTold_14 : decode cX7_tollTold 14 = .ok (.goto 20, 3) := by decide +kernel
theorem dX7_tollTold_17 : decode cX7_tollTold 17 = .ok (.aload_n 0, 1) := by decide +kernel
theorem dX7_tollTold_18 : decode cX7_tollTold 18 = .ok (.getfield 33, 3) := by decide +kernel
theorem dX7_tollTold_21 : decode cX7_tollTold 21 = .ok (.getfield 153, 3) := by decide +kernel
theorem dX7_tollTold_24 : decode cX7_tollTold 24 = .ok (.iload_n 1, 1) := by decide +kernel
theorem dX7_tollTold_25 : decode cX7_tollTold 25 = .ok (.iaload, 1) := by decide +kernel
