theorem dX10_lowest_0 : decode cX10_lowest 0 = .ok (.lload_n 0, 1) := by decide +kernel
theorem dX10_lowest_1 : decode cX10_lowest 1 = .ok (.lconst 0, 1) := by decide +kernel
theorem dX10_lowest_2 : decode cX10_lowest 2 = .ok (.lcmp, 1) := by decide +kernel
theorem dX10_lowest_3 : decode cX10_lowest 3 = .ok (.ifCond .ge 8, 3) := by decide +kernel
theorem dX10_lowest_6 : decode cX10_lowest 6 = .ok (.lload_n 0, 1) := by decide +kernel
theorem dX10_lowest_7 : decode cX10_lowest 7 = .ok (.lneg, 1) := by decide +kernel
theorem dX10_lowest_8 : decode cX10_lowest 8 = .ok (.goto 4, 3) := by decide +kernel
theorem dX10_lowest_11 : decode cX10_lowest 11 = .ok (.lload_n 0, 1) := by decide +kernel
theorem dX10_lowest_12 : decode cX10_lowest 12 = .ok (.lstore 5, 2) := by decide +kernel
theorem dX10_lowest_14 : decode cX10_lowest 14 = .ok (.lload_n 2, 1) := by decide +kernel
theorem dX10_lowest_15 : decode cX10_lowest 15 = .ok (.lstore 7, 2) := by decide +kernel
theorem dX10_lowest_17 : decode cX10_lowest 17 = .ok (.lload 7, 2) := by decide +kernel
theorem dX10_lowest_19 : decode cX10_lowest 19 = .ok (.lconst 0, 1) := by decide +kernel
theorem dX10_lowest_20 : decode cX10_lowest 20 = .ok (.lcmp, 1) := by decide +kernel
theorem dX10_lowest_21 : decode cX10_lowest 21 = .ok (.ifCond .eq 21, 3) := by decide +kernel
theorem dX10_lowest_24 : decode cX10_lowest 24 = .ok (.lload 5, 2) := by decide +kernel
theorem dX10_lowest_26 : decode cX10_lowest 26 = .ok (.lload 7, 2) := by decide +kernel
theorem dX10_lowest_28 : decode cX10_lowest 28 = .ok (.lrem, 1) := by decide +kernel
theorem dX10_lowest_29 : decode cX10_lowest 29 = .ok (.lstore 9, 2) := by decide +kernel
theorem dX10_lowest_31 : decode cX10_lowest 31 = .ok (.lload 7, 2) := by decide +kernel
theorem dX10_lowest_33 : decode cX10_lowest 33 = .ok (.lstore 5, 2) := by decide +kernel
theorem dX10_lowest_35 : decode cX10_lowest 35 = .ok (.lload 9, 2) := by decide +kernel
theorem dX10_lowest_37 : decode cX10_lowest 37 = .ok (.lstore 7, 2) := by decide +kernel
theorem dX10_lowest_39 : decode cX10_lowest 39 = .ok (.goto (-22), 3) := by decide +kernel
theorem dX10_lowest_42 : decode cX10_lowest 42 = .ok (.iload 4, 2) := by decide +kernel
theorem dX10_lowest_44 : decode cX10_lowest 44 = .ok (.ifCond .ne 7, 3) := by decide +kernel
theorem dX10_lowest_47 : decode cX10_lowest 47 = .ok (.lload_n 0, 1) := by decide +kernel
theorem dX10_lowest_48 : decode cX10_lowest 48 = .ok (.goto 4, 3) := by decide +kernel
theorem dX10_lowest_51 : decode cX10_lowest 51 = .ok (.lload_n 2, 1) := by decide +kernel
theorem dX10_lowest_52 : decode cX10_lowest 52 = .ok (.lload 5, 2) := by decide +kernel
theorem dX10_lowest_54 : decode cX10_lowest 54 = .ok (.ldiv, 1) := by decide +kernel
theorem dX10_lowest_55 : decode cX10_lowest 55 = .ok (.lreturn, 1) := by decide +kernel
theorem dX10_odds_0 : decode cX10_odds 0 = .ok (.iload_n 1, 1) := by decide +kernel
theorem dX10_odds_1 : decode cX10_odds 1 = .ok (.i2l, 1) := by decide +kernel
theorem dX10_odds_2 : decode cX10_odds 2 = .ok (.lconst 0, 1) := by decide +kernel
theorem dX10_odds_3 : decode cX10_odds 3 = .ok (.lconst 1, 1) := by decide +kernel
theorem dX10_odds_4 : decode cX10_odds 4 = .ok (.invokestatic 96, 3) := by decide +kernel
theorem dX10_odds_7 : decode cX10_odds 7 = .ok (.ifCond .ne 7, 3) := by decide +kernel
theorem dX10_odds_10 : decode cX10_odds 10 = .ok (.ldc2_w 213, 3) := by decide +kernel
theorem dX10_odds_13 : decode cX10_odds 13 = .ok (.lreturn, 1) := by decide +kernel
theorem dX10_odds_14 : decode cX10_odds 14 = .ok (.lconst 0, 1) := by decide +kernel
theorem dX10_odds_15 : decode cX10_odds 15 = .ok (.lstore_n 2, 1) := by decide +kernel
theorem dX10_odds_16 : decode cX10_odds 16 = .ok (.aload_n 0, 1) := by decide +kernel
theorem dX10_odds_17 : decode cX10_odds 17 = .ok (.getfield 22, 3) := by decide +kernel
theorem dX10_odds_20 : decode cX10_odds 20 = .ok (.ineg, 1) := by decide +kernel
theorem dX10_odds_21 : decode cX10_odds 21 = .ok (.istore 4, 2) := by decide +kernel
theorem dX10_odds_23 : decode cX10_odds 23 = .ok (.iload 4, 2) := by decide +kernel
theorem dX10_odds_25 : decode cX10_odds 25 = .ok (.aload_n 0, 1) := by decide +kernel
theorem dX10_odds_26 : decode cX10_odds 26 = .ok (.getfield 22, 3) := by decide +kernel
theorem dX10_odds_29 : decode cX10_odds 29 = .ok (.if_icmp .gt 58, 3) := by decide +kernel
theorem dX10_odds_32 : decode cX10_odds 32 = .ok (.aload_n 0, 1) := by decide +kernel
theorem dX10_odds_33 : decode cX10_odds 33 = .ok (.getfield 22, 3) := by decide +kernel
theorem dX10_odds_36 : decode cX10_odds 36 = .ok (.ineg, 1) := by decide +kernel
theorem dX10_odds_37 : decode cX10_odds 37 = .ok (.istore 5, 2) := by decide +kernel
theorem dX10_odds_39 : decode cX10_odds 39 = .ok (.iload 5, 2) := by decide +kernel
theorem dX10_odds_41 : decode cX10_odds 41 = .ok (.aload_n 0, 1) := by decide +kernel
theorem dX10_odds_42 : decode cX10_odds 42 = .ok (.getfield 22, 3) := by decide +kernel
theorem dX10_odds_45 : decode cX10_odds 45 = .ok (.if_icmp .gt 36, 3) := by decide +kernel
theorem dX10_odds_48 : decode cX10_odds 48 = .ok (.lload_n 2, 1) := by decide +kernel
theorem dX10_odds_49 : decode cX10_odds 49 = .ok (.aload_n 0, 1) := by decide +kernel
theorem dX10_odds_50 : decode cX10_odds 50 = .ok (.iload 4, 2) := by decide +kernel
theorem dX10_odds_52 : decode cX10_odds 52 = .ok (.i2l, 1) := by decide +kernel
theorem dX10_odds_53 : decode cX10_odds 53 = .ok (.iload 5, 2) := by decide +kernel
theorem dX10_odds_55 : decode cX10_odds 55 = .ok (.i2l, 1) := by decide +kernel
theorem dX10_odds_56 : decode cX10_odds 56 = .ok (.invokevirtual 146, 3) := by decide +kernel
theorem dX10_odds_59 : decode cX10_odds 59 = .ok (.aload_n 0, 1) := by decide +kernel
theorem dX10_odds_60 : decode cX10_odds 60 = .ok (.getfield 19, 3) := by decide +kernel
theorem dX10_odds_63 : decode cX10_odds 63 = .ok (.i2l, 1) := by decide +kernel
theorem dX10_odds_64 : decode cX10_odds 64 = .ok (.lcmp, 1) := by decide +kernel
theorem dX10_odds_65 : decode cX10_odds 65 = .ok (.ifCond .le 7, 3) := by decide +kernel
theorem dX10_odds_68 : decode cX10_odds 68 = .ok (.lconst 1, 1) := by decide +kernel
theorem dX10_odds_69 : decode cX10_odds 69 = .ok (.goto 4, 3) := by decide +kernel
theorem dX10_odds_72 : decode cX10_odds 72 = .ok (.lconst 0, 1) := by decide +kernel
theorem dX10_odds_73 : decode cX10_odds 73 = .ok (.ladd, 1) := by decide +kernel
theorem dX10_odds_74 : decode cX10_odds 74 = .ok (.lstore_n 2, 1) := by decide +kernel
theorem dX10_odds_75 : decode cX10_odds 75 = .ok (.iinc 5 1, 3) := by decide +kernel
theorem dX10_odds_78 : decode cX10_odds 78 = .ok (.goto (-39), 3) := by decide +kernel
theorem dX10_odds_81 : decode cX10_odds 81 = .ok (.iinc 4 1, 3) := by decide +kernel
theorem dX10_odds_84 : decode cX10_odds 84 = .ok (.goto (-61), 3) := by decide +kernel
theorem dX10_odds_87 : decode cX10_odds 87 = .ok (.lload_n 2, 1) := by decide +kernel
theorem dX10_odds_88 : decode cX10_odds 88 = .ok (.ldc2_w 100, 3) := by decide +kernel
theorem dX10_odds_91 : decode cX10_odds 91 = .ok (.aload_n 0, 1) := by decide +kernel
theorem dX10_odds_92 : decode cX10_odds 92 = .ok (.getfield 22, 3) := by decide +kernel
theorem dX10_odds_95 : decode cX10_odds 95 = .ok (.i2l, 1) := by decide +kernel
theorem dX10_odds_96 : decode cX10_odds 96 = .ok (.lmul, 1) := by decide +kernel
theorem dX10_odds_97 : decode cX10_odds 97 = .ok (.lconst 1, 1) := by decide +kernel
theorem dX10_odds_98 : decode cX10_odds 98 = .ok (.ladd, 1) := by decide +kernel
theorem dX10_odds_99 : decode cX10_odds 99 = .ok (.ldc2_w 100, 3) := by decide +kernel
theorem dX10_odds_102 : decode cX10_odds 102 = .ok (.aload_n 0, 1) := by decide +kernel
theorem dX10_odds_103 : decode cX10_odds 103 = .ok (.getfield 22, 3) := by decide +kernel
theorem dX10_odds_106 : decode cX10_odds 106 = .ok (.i2l, 1) := by decide +kernel
theorem dX10_odds_107 : decode cX10_odds 107 = .ok (.lmul, 1) := by decide +kernel
theorem dX10_odds_108 : decode cX10_odds 108 = .ok (.lconst 1, 1) := by decide +kernel
theorem dX10_odds_109 : decode cX10_odds 109 = .ok (.ladd, 1) := by decide +kernel
theorem dX10_odds_110 : decode cX10_odds 110 = .ok (.lmul, 1) := by decide +kernel
theorem dX10_odds_111 : decode cX10_odds 111 = .ok (.iload_n 1, 1) := by decide +kernel
theorem dX10_odds_112 : decode cX10_odds 112 = .ok (.invokestatic 279, 3) := by decide +kernel
theorem dX10_odds_115 : decode cX10_odds 115 = .ok (.lreturn, 1) := by decide +kernel
theorem dX10_mean_0 : decode cX10_mean 0 = .ok (.iload_n 1, 1) := by decide +kernel
theorem dX10_mean_1 : decode cX10_mean 1 = .ok (.i2l, 1) := by decide +kernel
theorem dX10_mean_2 : decode cX10_mean 2 = .ok (.lconst 0, 1) := by decide +kernel
theorem dX10_mean_3 : decode cX10_mean 3 = .ok (.lconst 1, 1) := by decide +kernel
theorem dX10_mean_4 : decode cX10_mean 4 = .ok (.invokestatic 96, 3) := by decide +kernel
theorem dX10_mean_7 : decode cX10_mean 7 = .ok (.ifCond .ne 7, 3) := by decide +kernel
theorem dX10_mean_10 : decode cX10_mean 10 = .ok (.ldc2_w 213, 3) := by decide +kernel
theorem dX10_mean_13 : decode cX10_mean 13 = .ok (.lreturn, 1) := by decide +kernel
theorem dX10_mean_14 : decode cX10_mean 14 = .ok (.lconst 0, 1) := by decide +kernel
theorem dX10_mean_15 : decode cX10_mean 15 = .ok (.lstore_n 2, 1) := by decide +kernel
theorem dX10_mean_16 : decode cX10_mean 16 = .ok (.aload_n 0, 1) := by decide +kernel
theorem dX10_mean_17 : decode cX10_mean 17 = .ok (.getfield 22, 3) := by decide +kernel
theorem dX10_mean_20 : decode cX10_mean 20 = .ok (.ineg, 1) := by decide +kernel
theorem dX10_mean_21 : decode cX10_mean 21 = .ok (.istore 4, 2) := by decide +kernel
theorem dX10_mean_23 : decode cX10_mean 23 = .ok (.iload 4, 2) := by decide +kernel
theorem dX10_mean_25 : decode cX10_mean 25 = .ok (.aload_n 0, 1) := by decide +kernel
theorem dX10_mean_26 : decode cX10_mean 26 = .ok (.getfield 22, 3) := by decide +kernel
theorem dX10_mean_29 : decode cX10_mean 29 = .ok (.if_icmp .gt 44, 3) := by decide +kernel
theorem dX10_mean_32 : decode cX10_mean 32 = .ok (.aload_n 0, 1) := by decide +kernel
theorem dX10_mean_33 : decode cX10_mean 33 = .ok (.getfield 22, 3) := by decide +kernel
theorem dX10_mean_36 : decode cX10_mean 36 = .ok (.ineg, 1) := by decide +kernel
theorem dX10_mean_37 : decode cX10_mean 37 = .ok (.istore 5, 2) := by decide +kernel
theorem dX10_mean_39 : decode cX10_mean 39 = .ok (.iload 5, 2) := by decide +kernel
theorem dX10_mean_41 : decode cX10_mean 41 = .ok (.aload_n 0, 1) := by decide +kernel
theorem dX10_mean_42 : decode cX10_mean 42 = .ok (.getfield 22, 3) := by decide +kernel
theorem dX10_mean_45 : decode cX10_mean 45 = .ok (.if_icmp .gt 22, 3) := by decide +kernel
theorem dX10_mean_48 : decode cX10_mean 48 = .ok (.lload_n 2, 1) := by decide +kernel
theorem dX10_mean_49 : decode cX10_mean 49 = .ok (.aload_n 0, 1) := by decide +kernel
theorem dX10_mean_50 : decode cX10_mean 50 = .ok (.iload 4, 2) := by decide +kernel
theorem dX10_mean_52 : decode cX10_mean 52 = .ok (.i2l, 1) := by decide +kernel
theorem dX10_mean_53 : decode cX10_mean 53 = .ok (.iload 5, 2) := by decide +kernel
theorem dX10_mean_55 : decode cX10_mean 55 = .ok (.i2l, 1) := by decide +kernel
theorem dX10_mean_56 : decode cX10_mean 56 = .ok (.invokevirtual 146, 3) := by decide +kernel
theorem dX10_mean_59 : decode cX10_mean 59 = .ok (.ladd, 1) := by decide +kernel
theorem dX10_mean_60 : decode cX10_mean 60 = .ok (.lstore_n 2, 1) := by decide +kernel
theorem dX10_mean_61 : decode cX10_mean 61 = .ok (.iinc 5 1, 3) := by decide +kernel
theorem dX10_mean_64 : decode cX10_mean 64 = .ok (.goto (-25), 3) := by decide +kernel
theorem dX10_mean_67 : decode cX10_mean 67 = .ok (.iinc 4 1, 3) := by decide +kernel
theorem dX10_mean_70 : decode cX10_mean 70 = .ok (.goto (-47), 3) := by decide +kernel
theorem dX10_mean_73 : decode cX10_mean 73 = .ok (.lload_n 2, 1) := by decide +kernel
theorem dX10_mean_74 : decode cX10_mean 74 = .ok (.ldc2_w 100, 3) := by decide +kernel
theorem dX10_mean_77 : decode cX10_mean 77 = .ok (.aload_n 0, 1) := by decide +kernel
theorem dX10_mean_78 : decode cX10_mean 78 = .ok (.getfield 22, 3) := by decide +kernel
theorem dX10_mean_81 : decode cX10_mean 81 = .ok (.i2l, 1) := by decide +kernel
theorem dX10_mean_82 : decode cX10_mean 82 = .ok (.lmul, 1) := by decide +kernel
theorem dX10_mean_83 : decode cX10_mean 83 = .ok (.lconst 1, 1) := by decide +kernel
theorem dX10_mean_84 : decode cX10_mean 84 = .ok (.ladd, 1) := by decide +kernel
theorem dX10_mean_85 : decode cX10_mean 85 = .ok (.ldc2_w 100, 3) := by decide +kernel
theorem dX10_mean_88 : decode cX10_mean 88 = .ok (.aload_n 0, 1) := by decide +kernel
theorem dX10_mean_89 : decode cX10_mean 89 = .ok (.getfield 22, 3) := by decide +kernel
theorem dX10_mean_92 : decode cX10_mean 92 = .ok (.i2l, 1) := by decide +kernel
theorem dX10_mean_93 : decode cX10_mean 93 = .ok (.lmul, 1) := by decide +kernel
theorem dX10_mean_94 : decode cX10_mean 94 = .ok (.lconst 1, 1) := by decide +kernel
theorem dX10_mean_95 : decode cX10_mean 95 = .ok (.ladd, 1) := by decide +kernel
theorem dX10_mean_96 : decode cX10_mean 96 = .ok (.lmul, 1) := by decide +kernel
theorem dX10_mean_97 : decode cX10_mean 97 = .ok (.iload_n 1, 1) := by decide +kernel
theorem dX10_mean_98 : decode cX10_mean 98 = .ok (.invokestatic 279, 3) := by decide +kernel
theorem dX10_mean_101 : decode cX10_mean 101 = .ok (.lreturn, 1) := by decide +kernel
theorem dX10_event_0 : decode cX10_event 0 = .ok (.iload_n 1, 1) := by decide +kernel
theorem dX10_event_1 : decode cX10_event 1 = .ok (.iconst (-1), 1) := by decide +kernel
theorem dX10_event_2 : decode cX10_event 2 = .ok (.if_icmp .ne 10, 3) := by decide +kernel
theorem dX10_event_5 : decode cX10_event 5 = .ok (.aload_n 0, 1) := by decide +kernel
theorem dX10_event_6 : decode cX10_event 6 = .ok (.iconst 0, 1) := by decide +kernel
theorem dX10_event_7 : decode cX10_event 7 = .ok (.putfield 283, 3) := by decide +kernel
theorem dX10_event_10 : decode cX10_event 10 = .ok (.iconst 0, 1) := by decide +kernel
theorem dX10_event_11 : decode cX10_event 11 = .ok (.ireturn, 1) := by decide +kernel
theorem dX10_event_12 : decode cX10_event 12 = .ok (.iload_n 1, 1) := by decide +kernel
theorem dX10_event_13 : decode cX10_event 13 = .ok (.i2l, 1) := by decide +kernel
theorem dX10_event_14 : decode cX10_event 14 = .ok (.lconst 0, 1) := by decide +kernel
theorem dX10_event_15 : decode cX10_event 15 = .ok (.ldc2_w 100, 3) := by decide +kernel
theorem dX10_event_18 : decode cX10_event 18 = .ok (.invokestatic 96, 3) := by decide +kernel
theorem dX10_event_21 : decode cX10_event 21 = .ok (.ifCond .eq 32, 3) := by decide +kernel
theorem dX10_event_24 : decode cX10_event 24 = .ok (.iload_n 1, 1) := by decide +kernel
theorem dX10_event_25 : decode cX10_event 25 = .ok (.ifCond .ne 11, 3) := by decide +kernel
theorem dX10_event_28 : decode cX10_event 28 = .ok (.aload_n 0, 1) := by decide +kernel
theorem dX10_event_29 : decode cX10_event 29 = .ok (.iload_n 2, 1) := by decide +kernel
theorem dX10_event_30 : decode cX10_event 30 = .ok (.invokevirtual 104, 3) := by decide +kernel
theorem dX10_event_33 : decode cX10_event 33 = .ok (.ifCond .eq 20, 3) := by decide +kernel
theorem dX10_event_36 : decode cX10_event 36 = .ok (.iload_n 1, 1) := by decide +kernel
theorem dX10_event_37 : decode cX10_event 37 = .ok (.iconst 1, 1) := by decide +kernel
theorem dX10_event_38 : decode cX10_event 38 = .ok (.if_icmp .ne 17, 3) := by decide +kernel
theorem dX10_event_41 : decode cX10_event 41 = .ok (.iload_n 2, 1) := by decide +kernel
theorem dX10_event_42 : decode cX10_event 42 = .ok (.i2l, 1) := by decide +kernel
theorem dX10_event_43 : decode cX10_event 43 = .ok (.lconst 0, 1) := by decide +kernel
theorem dX10_event_44 : decode cX10_event 44 = .ok (.ldc2_w 102, 3) := by decide +kernel
theorem dX10_event_47 : decode cX10_event 47 = .ok (.invokestatic 96, 3) := by decide +kernel
theorem dX10_event_50 : decode cX10_event 50 = .ok (.ifCond .ne 5, 3) := by decide +kernel
theorem dX10_event_53 : decode cX10_event 53 = .ok (.iconst (-1), 1) := by decide +kernel
theorem dX10_event_54 : decode cX10_event 54 = .ok (.ireturn, 1) := by decide +kernel
theorem dX10_event_55 : decode cX10_event 55 = .ok (.iload_n 1, 1) := by decide +kernel
theorem dX10_event_56 : decode cX10_event 56 = .ok (.iconst 2, 1) := by decide +kernel
theorem dX10_event_57 : decode cX10_event 57 = .ok (.if_icmp .ne 20, 3) := by decide +kernel
theorem dX10_event_60 : decode cX10_event 60 = .ok (.iload_n 2, 1) := by decide +kernel
theorem dX10_event_61 : decode cX10_event 61 = .ok (.i2l, 1) := by decide +kernel
theorem dX10_event_62 : decode cX10_event 62 = .ok (.ldc2_w 108, 3) := by decide +kernel
theorem dX10_event_65 : decode cX10_event 65 = .ok (.ldc2_w 110, 3) := by decide +kernel
theorem dX10_event_68 : decode cX10_event 68 = .ok (.invokestatic 96, 3) := by decide +kernel
theorem dX10_event_71 : decode cX10_event 71 = .ok (.ifCond .ne 6, 3) := by decide +kernel
theorem dX10_event_74 : decode cX10_event 74 = .ok (.bipush (-2), 2) := by decide +kernel
theorem dX10_event_76 : decode cX10_event 76 = .ok (.ireturn, 1) := by decide +kernel
theorem dX10_event_77 : decode cX10_event 77 = .ok (.aload_n 0, 1) := by decide +kernel
theorem dX10_event_78 : decode cX10_event 78 = .ok (.getfield 283, 3) := by decide +kernel
theorem dX10_event_81 : decode cX10_event 81 = .ok (.bipush 8, 2) := by decide +kernel
theorem dX10_event_83 : decode cX10_event 83 = .ok (.if_icmp .ne 6, 3) := by decide +kernel
theorem dX10_event_86 : decode cX10_event 86 = .ok (.bipush (-4), 2) := by decide +kernel
theorem dX10_event_88 : decode cX10_event 88 = .ok (.ireturn, 1) := by decide +kernel
theorem dX10_event_89 : decode cX10_event 89 = .ok (.aload_n 0, 1) := by decide +kernel
theorem dX10_event_90 : decode cX10_event 90 = .ok (.getfield 29, 3) := by decide +kernel
theorem dX10_event_93 : decode cX10_event 93 = .ok (.iconst 2, 1) := by decide +kernel
theorem dX10_event_94 : decode cX10_event 94 = .ok (.aload_n 0, 1) := by decide +kernel
theorem dX10_event_95 : decode cX10_event 95 = .ok (.getfield 283, 3) := by decide +kernel
theorem dX10_event_98 : decode cX10_event 98 = .ok (.imul, 1) := by decide +kernel
theorem dX10_event_99 : decode cX10_event 99 = .ok (.iload_n 1, 1) := by decide +kernel
theorem dX10_event_100 : decode cX10_event 100 = .ok (.iastore, 1) := by decide +kernel
theorem dX10_event_101 : decode cX10_event 101 = .ok (.aload_n 0, 1) := by decide +kernel
theorem dX10_event_102 : decode cX10_event 102 = .ok (.getfield 29, 3) := by decide +kernel
theorem dX10_event_105 : decode cX10_event 105 = .ok (.iconst 2, 1) := by decide +kernel
theorem dX10_event_106 : decode cX10_event 106 = .ok (.aload_n 0, 1) := by decide +kernel
theorem dX10_event_107 : decode cX10_event 107 = .ok (.getfield 283, 3) := by decide +kernel
theorem dX10_event_110 : decode cX10_event 110 = .ok (.imul, 1) := by decide +kernel
theorem dX10_event_111 : decode cX10_event 111 = .ok (.iconst 1, 1) := by decide +kernel
theorem dX10_event_112 : decode cX10_event 112 = .ok (.iadd, 1) := by decide +kernel
theorem dX10_event_113 : decode cX10_event 113 = .ok (.iload_n 2, 1) := by decide +kernel
theorem dX10_event_114 : decode cX10_event 114 = .ok (.iastore, 1) := by decide +kernel
theorem dX10_event_115 : decode cX10_event 115 = .ok (.aload_n 0, 1) := by decide +kernel
theorem dX10_event_116 : decode cX10_event 116 = .ok (.dup, 1) := by decide +kernel
theorem dX10_event_117 : decode cX10_event 117 = .ok (.getfield 283, 3) := by decide +kernel
theorem dX10_event_120 : decode cX10_event 120 = .ok (.iconst 1, 1) := by decide +kernel
theorem dX10_event_121 : decode cX10_event 121 = .ok (.iadd, 1) := by decide +kernel
theorem dX10_event_122 : decode cX10_event 122 = .ok (.putfield 283, 3) := by decide +kernel
theorem dX10_event_125 : decode cX10_event 125 = .ok (.aload_n 0, 1) := by decide +kernel
theorem dX10_event_126 : decode cX10_event 126 = .ok (.getfield 283, 3) := by decide +kernel
theorem dX10_event_129 : decode cX10_event 129 = .ok (.ireturn, 1) := by decide +kernel
theorem dX10_happens_0 : decode cX10_happens 0 = .ok (.iload_n 1, 1) := by decide +kernel
theorem dX10_happens_1 : decode cX10_happens 1 = .ok (.ifCond .ne 31, 3) := by decide +kernel
theorem dX10_happens_4 : decode cX10_happens 4 = .ok (.aload_n 0, 1) := by decide +kernel
theorem dX10_happens_5 : decode cX10_happens 5 = .ok (.iload_n 2, 1) := by decide +kernel
theorem dX10_happens_6 : decode cX10_happens 6 = .ok (.invokevirtual 104, 3) := by decide +kernel
theorem dX10_happens_9 : decode cX10_happens 9 = .ok (.ifCond .eq 23, 3) := by decide +kernel
theorem dX10_happens_12 : decode cX10_happens 12 = .ok (.aload_n 0, 1) := by decide +kernel
theorem dX10_happens_13 : decode cX10_happens 13 = .ok (.getfield 15, 3) := by decide +kernel
theorem dX10_happens_16 : decode cX10_happens 16 = .ok (.iload_n 2, 1) := by decide +kernel
theorem dX10_happens_17 : decode cX10_happens 17 = .ok (.ldc2_w 110, 3) := by decide +kernel
theorem dX10_happens_20 : decode cX10_happens 20 = .ok (.aload_n 0, 1) := by decide +kernel
theorem dX10_happens_21 : decode cX10_happens 21 = .ok (.getfield 15, 3) := by decide +kernel
theorem dX10_happens_24 : decode cX10_happens 24 = .ok (.iload_n 2, 1) := by decide +kernel
theorem dX10_happens_25 : decode cX10_happens 25 = .ok (.laload, 1) := by decide +kernel
theorem dX10_happens_26 : decode cX10_happens 26 = .ok (.lconst 1, 1) := by decide +kernel
theorem dX10_happens_27 : decode cX10_happens 27 = .ok (.ladd, 1) := by decide +kernel
theorem dX10_happens_28 : decode cX10_happens 28 = .ok (.invokestatic 286, 3) := by decide +kernel
theorem dX10_happens_31 : decode cX10_happens 31 = .ok (.lastore, 1) := by decide +kernel
theorem dX10_happens_32 : decode cX10_happens 32 = .ok (.iload_n 1, 1) := by decide +kernel
theorem dX10_happens_33 : decode cX10_happens 33 = .ok (.iconst 1, 1) := by decide +kernel
theorem dX10_happens_34 : decode cX10_happens 34 = .ok (.if_icmp .ne 9, 3) := by decide +kernel
theorem dX10_happens_37 : decode cX10_happens 37 = .ok (.aload_n 0, 1) := by decide +kernel
theorem dX10_happens_38 : decode cX10_happens 38 = .ok (.iload_n 2, 1) := by decide +kernel
theorem dX10_happens_39 : decode cX10_happens 39 = .ok (.invokevirtual 136, 3) := by decide +kernel
theorem dX10_happens_42 : decode cX10_happens 42 = .ok (.istore_n 3, 1) := by decide +kernel
theorem dX10_happens_43 : decode cX10_happens 43 = .ok (.iload_n 1, 1) := by decide +kernel
theorem dX10_happens_44 : decode cX10_happens 44 = .ok (.iconst 2, 1) := by decide +kernel
theorem dX10_happens_45 : decode cX10_happens 45 = .ok (.if_icmp .ne 32, 3) := by decide +kernel
theorem dX10_happens_48 : decode cX10_happens 48 = .ok (.aload_n 0, 1) := by decide +kernel
theorem dX10_happens_49 : decode cX10_happens 49 = .ok (.getfield 19, 3) := by decide +kernel
theorem dX10_happens_52 : decode cX10_happens 52 = .ok (.iload_n 2, 1) := by decide +kernel
theorem dX10_happens_53 : decode cX10_happens 53 = .ok (.iadd, 1) := by decide +kernel
theorem dX10_happens_54 : decode cX10_happens 54 = .ok (.i2l, 1) := by decide +kernel
theorem dX10_happens_55 : decode cX10_happens 55 = .ok (.ldc2_w 112, 3) := by decide +kernel
theorem dX10_happens_58 : decode cX10_happens 58 = .ok (.ldc2_w 114, 3) := by decide +kernel
theorem dX10_happens_61 : decode cX10_happens 61 = .ok (.invokestatic 96, 3) := by decide +kernel
theorem dX10_happens_64 : decode cX10_happens 64 = .ok (.ifCond .eq 13, 3) := by decide +kernel
theorem dX10_happens_67 : decode cX10_happens 67 = .ok (.aload_n 0, 1) := by decide +kernel
theorem dX10_happens_68 : decode cX10_happens 68 = .ok (.dup, 1) := by decide +kernel
theorem dX10_happens_69 : decode cX10_happens 69 = .ok (.getfield 19, 3) := by decide +kernel
theorem dX10_happens_72 : decode cX10_happens 72 = .ok (.iload_n 2, 1) := by decide +kernel
theorem dX10_happens_73 : decode cX10_happens 73 = .ok (.iadd, 1) := by decide +kernel
theorem dX10_happens_74 : decode cX10_happens 74 = .ok (.putfield 19, 3) := by decide +kernel
theorem dX10_happens_77 : decode cX10_happens 77 = .ok (.return_, 1) := by decide +kernel
theorem dX10_after_0 : decode cX10_after 0 = .ok (.iload_n 1, 1) := by decide +kernel
theorem dX10_after_1 : decode cX10_after 1 = .ok (.i2l, 1) := by decide +kernel
theorem dX10_after_2 : decode cX10_after 2 = .ok (.lconst 0, 1) := by decide +kernel
theorem dX10_after_3 : decode cX10_after 3 = .ok (.ldc2_w 100, 3) := by decide +kernel
theorem dX10_after_6 : decode cX10_after 6 = .ok (.invokestatic 96, 3) := by decide +kernel
theorem dX10_after_9 : decode cX10_after 9 = .ok (.ifCond .ne 5, 3) := by decide +kernel
theorem dX10_after_12 : decode cX10_after 12 = .ok (.iconst (-1), 1) := by decide +kernel
theorem dX10_after_13 : decode cX10_after 13 = .ok (.ireturn, 1) := by decide +kernel
theorem dX10_after_14 : decode cX10_after 14 = .ok (.aload_n 0, 1) := by decide +kernel
theorem dX10_after_15 : decode cX10_after 15 = .ok (.getfield 19, 3) := by decide +kernel
theorem dX10_after_18 : decode cX10_after 18 = .ok (.istore_n 2, 1) := by decide +kernel
theorem dX10_after_19 : decode cX10_after 19 = .ok (.iconst 0, 1) := by decide +kernel
theorem dX10_after_20 : decode cX10_after 20 = .ok (.istore_n 3, 1) := by decide +kernel
theorem dX10_after_21 : decode cX10_after 21 = .ok (.iload_n 3, 1) := by decide +kernel
theorem dX10_after_22 : decode cX10_after 22 = .ok (.iconst 5, 1) := by decide +kernel
theorem dX10_after_23 : decode cX10_after 23 = .ok (.if_icmp .ge 21, 3) := by decide +kernel
theorem dX10_after_26 : decode cX10_after 26 = .ok (.aload_n 0, 1) := by decide +kernel
theorem dX10_after_27 : decode cX10_after 27 = .ok (.getfield 78, 3) := by decide +kernel
theorem dX10_after_30 : decode cX10_after 30 = .ok (.iload_n 3, 1) := by decide +kernel
theorem dX10_after_31 : decode cX10_after 31 = .ok (.aload_n 0, 1) := by decide +kernel
theorem dX10_after_32 : decode cX10_after 32 = .ok (.getfield 15, 3) := by decide +kernel
theorem dX10_after_35 : decode cX10_after 35 = .ok (.iload_n 3, 1) := by decide +kernel
theorem dX10_after_36 : decode cX10_after 36 = .ok (.laload, 1) := by decide +kernel
theorem dX10_after_37 : decode cX10_after 37 = .ok (.lastore, 1) := by decide +kernel
theorem dX10_after_38 : decode cX10_after 38 = .ok (.iinc 3 1, 3) := by decide +kernel
theorem dX10_after_41 : decode cX10_after 41 = .ok (.goto (-20), 3) := by decide +kernel
theorem dX10_after_44 : decode cX10_after 44 = .ok (.iconst 0, 1) := by decide +kernel
theorem dX10_after_45 : decode cX10_after 45 = .ok (.istore_n 3, 1) := by decide +kernel
theorem dX10_after_46 : decode cX10_after 46 = .ok (.iload_n 3, 1) := by decide +kernel
theorem dX10_after_47 : decode cX10_after 47 = .ok (.aload_n 0, 1) := by decide +kernel
theorem dX10_after_48 : decode cX10_after 48 = .ok (.getfield 283, 3) := by decide +kernel
theorem dX10_after_51 : decode cX10_after 51 = .ok (.if_icmp .ge 31, 3) := by decide +kernel
theorem dX10_after_54 : decode cX10_after 54 = .ok (.aload_n 0, 1) := by decide +kernel
theorem dX10_after_55 : decode cX10_after 55 = .ok (.aload_n 0, 1) := by decide +kernel
theorem dX10_after_56 : decode cX10_after 56 = .ok (.getfield 29, 3) := by decide +kernel
theorem dX10_after_59 : decode cX10_after 59 = .ok (.iconst 2, 1) := by decide +kernel
theorem dX10_after_60 : decode cX10_after 60 = .ok (.iload_n 3, 1) := by decide +kernel
theorem dX10_after_61 : decode cX10_after 61 = .ok (.imul, 1) := by decide +kernel
theorem dX10_after_62 : decode cX10_after 62 = .ok (.iaload, 1) := by decide +kernel
theorem dX10_after_63 : decode cX10_after 63 = .ok (.aload_n 0, 1) := by decide +kernel
theorem dX10_after_64 : decode cX10_after 64 = .ok (.getfield 29, 3) := by decide +kernel
theorem dX10_after_67 : decode cX10_after 67 = .ok (.iconst 2, 1) := by decide +kernel
theorem dX10_after_68 : decode cX10_after 68 = .ok (.iload_n 3, 1) := by decide +kernel
theorem dX10_after_69 : decode cX10_after 69 = .ok (.imul, 1) := by decide +kernel
theorem dX10_after_70 : decode cX10_after 70 = .ok (.iconst 1, 1) := by decide +kernel
theorem dX10_after_71 : decode cX10_after 71 = .ok (.iadd, 1) := by decide +kernel
theorem dX10_after_72 : decode cX10_after 72 = .ok (.iaload, 1) := by decide +kernel
theorem dX10_after_73 : decode cX10_after 73 = .ok (.invokevirtual 291, 3) := by decide +kernel
theorem dX10_after_76 : decode cX10_after 76 = .ok (.iinc 3 1, 3) := by decide +kernel
theorem dX10_after_79 : decode cX10_after 79 = .ok (.goto (-33), 3) := by decide +kernel
theorem dX10_after_82 : decode cX10_after 82 = .ok (.aload_n 0, 1) := by decide +kernel
theorem dX10_after_83 : decode cX10_after 83 = .ok (.iload_n 1, 1) := by decide +kernel
theorem dX10_after_84 : decode cX10_after 84 = .ok (.ifCond .ne 7, 3) := by decide +kernel
theorem dX10_after_87 : decode cX10_after 87 = .ok (.iconst 3, 1) := by decide +kernel
theorem dX10_after_88 : decode cX10_after 88 = .ok (.goto 4, 3) := by decide +kernel
theorem dX10_after_91 : decode cX10_after 91 = .ok (.iconst 4, 1) := by decide +kernel
theorem dX10_after_92 : decode cX10_after 92 = .ok (.invokevirtual 294, 3) := by decide +kernel
theorem dX10_after_95 : decode cX10_after 95 = .ok (.istore_n 3, 1) := by decide +kernel
theorem dX10_after_96 : decode cX10_after 96 = .ok (.aload_n 0, 1) := by decide +kernel
theorem dX10_after_97 : decode cX10_after 97 = .ok (.invokevirtual 182, 3) := by decide +kernel
theorem dX10_after_100 : decode cX10_after 100 = .ok (.istore 4, 2) := by decide +kernel
theorem dX10_after_102 : decode cX10_after 102 = .ok (.aload_n 0, 1) := by decide +kernel
theorem dX10_after_103 : decode cX10_after 103 = .ok (.iload_n 2, 1) := by decide +kernel
theorem dX10_after_104 : decode cX10_after 104 = .ok (.putfield 19, 3) := by decide +kernel
theorem dX10_after_107 : decode cX10_after 107 = .ok (.iconst 0, 1) := by decide +kernel
theorem dX10_after_108 : decode cX10_after 108 = .ok (.istore 5, 2) := by decide +kernel
theorem dX10_after_110 : decode cX10_after 110 = .ok (.iload 5, 2) := by decide +kernel
theorem dX10_after_112 : decode cX10_after 112 = .ok (.iconst 5, 1) := by decide +kernel
theorem dX10_after_113 : decode cX10_after 113 = .ok (.if_icmp .ge 23, 3) := by decide +kernel
theorem dX10_after_116 : decode cX10_after 116 = .ok (.aload_n 0, 1) := by decide +kernel
theorem dX10_after_117 : decode cX10_after 117 = .ok (.getfield 15, 3) := by decide +kernel
theorem dX10_after_120 : decode cX10_after 120 = .ok (.iload 5, 2) := by decide +kernel
theorem dX10_after_122 : decode cX10_after 122 = .ok (.aload_n 0, 1) := by decide +kernel
theorem dX10_after_123 : decode cX10_after 123 = .ok (.getfield 78, 3) := by decide +kernel
theorem dX10_after_126 : decode cX10_after 126 = .ok (.iload 5, 2) := by decide +kernel
theorem dX10_after_128 : decode cX10_after 128 = .ok (.laload, 1) := by decide +kernel
theorem dX10_after_129 : decode cX10_after 129 = .ok (.lastore, 1) := by decide +kernel
theorem dX10_after_130 : decode cX10_after 130 = .ok (.iinc 5 1, 3) := by decide +kernel
theorem dX10_after_133 : decode cX10_after 133 = .ok (.goto (-23), 3) := by decide +kernel
theorem dX10_after_136 : decode cX10_after 136 = .ok (.iload_n 1, 1) := by decide +kernel
theorem dX10_after_137 : decode cX10_after 137 = .ok (.iconst 1, 1) := by decide +kernel
theorem dX10_after_138 : decode cX10_after 138 = .ok (.if_icmp .ne 8, 3) := by decide +kernel
theorem dX10_after_141 : decode cX10_after 141 = .ok (.iload 4, 2) := by decide +kernel
theorem dX10_after_143 : decode cX10_after 143 = .ok (.goto 4, 3) := by decide +kernel
theorem dX10_after_146 : decode cX10_after 146 = .ok (.iload_n 3, 1) := by decide +kernel
theorem dX10_after_147 : decode cX10_after 147 = .ok (.ireturn, 1) := by decide +kernel
theorem dX10_book_0 : decode cX10_book 0 = .ok (.iload_n 1, 1) := by decide +kernel
theorem dX10_book_1 : decode cX10_book 1 = .ok (.iconst (-1), 1) := by decide +kernel
theorem dX10_book_2 : decode cX10_book 2 = .ok (.if_icmp .ne 10, 3) := by decide +kernel
theorem dX10_book_5 : decode cX10_book 5 = .ok (.aload_n 0, 1) := by decide +kernel
theorem dX10_book_6 : decode cX10_book 6 = .ok (.iconst 0, 1) := by decide +kernel
theorem dX10_book_7 : decode cX10_book 7 = .ok (.putfield 296, 3) := by decide +kernel
theorem dX10_book_10 : decode cX10_book 10 = .ok (.iconst 0, 1) := by decide +kernel
theorem dX10_book_11 : decode cX10_book 11 = .ok (.ireturn, 1) := by decide +kernel
theorem dX10_book_12 : decode cX10_book 12 = .ok (.aload_n 0, 1) := by decide +kernel
theorem dX10_book_13 : decode cX10_book 13 = .ok (.iload_n 1, 1) := by decide +kernel
theorem dX10_book_14 : decode cX10_book 14 = .ok (.invokevirtual 104, 3) := by decide +kernel
theorem dX10_book_17 : decode cX10_book 17 = .ok (.ifCond .ne 5, 3) := by decide +kernel
theorem dX10_book_20 : decode cX10_book 20 = .ok (.iconst (-1), 1) := by decide +kernel
theorem dX10_book_21 : decode cX10_book 21 = .ok (.ireturn, 1) := by decide +kernel
theorem dX10_book_22 : decode cX10_book 22 = .ok (.iload_n 2, 1) := by decide +kernel
theorem dX10_book_23 : decode cX10_book 23 = .ok (.i2l, 1) := by decide +kernel
theorem dX10_book_24 : decode cX10_book 24 = .ok (.ldc2_w 108, 3) := by decide +kernel
theorem dX10_book_27 : decode cX10_book 27 = .ok (.ldc2_w 110, 3) := by decide +kernel
theorem dX10_book_30 : decode cX10_book 30 = .ok (.invokestatic 96, 3) := by decide +kernel
theorem dX10_book_33 : decode cX10_book 33 = .ok (.ifCond .ne 6, 3) := by decide +kernel
theorem dX10_book_36 : decode cX10_book 36 = .ok (.bipush (-2), 2) := by decide +kernel
theorem dX10_book_38 : decode cX10_book 38 = .ok (.ireturn, 1) := by decide +kernel
theorem dX10_book_39 : decode cX10_book 39 = .ok (.aload_n 0, 1) := by decide +kernel
theorem dX10_book_40 : decode cX10_book 40 = .ok (.getfield 296, 3) := by decide +kernel
theorem dX10_book_43 : decode cX10_book 43 = .ok (.bipush 8, 2) := by decide +kernel
theorem dX10_book_45 : decode cX10_book 45 = .ok (.if_icmp .ne 6, 3) := by decide +kernel
theorem dX10_book_48 : decode cX10_book 48 = .ok (.bipush (-4), 2) := by decide +kernel
theorem dX10_book_50 : decode cX10_book 50 = .ok (.ireturn, 1) := by decide +kernel
theorem dX10_book_51 : decode cX10_book 51 = .ok (.aload_n 0, 1) := by decide +kernel
theorem dX10_book_52 : decode cX10_book 52 = .ok (.getfield 32, 3) := by decide +kernel
theorem dX10_book_55 : decode cX10_book 55 = .ok (.iconst 2, 1) := by decide +kernel
theorem dX10_book_56 : decode cX10_book 56 = .ok (.aload_n 0, 1) := by decide +kernel
theorem dX10_book_57 : decode cX10_book 57 = .ok (.getfield 296, 3) := by decide +kernel
theorem dX10_book_60 : decode cX10_book 60 = .ok (.imul, 1) := by decide +kernel
theorem dX10_book_61 : decode cX10_book 61 = .ok (.iload_n 1, 1) := by decide +kernel
theorem dX10_book_62 : decode cX10_book 62 = .ok (.iastore, 1) := by decide +kernel
theorem dX10_book_63 : decode cX10_book 63 = .ok (.aload_n 0, 1) := by decide +kernel
theorem dX10_book_64 : decode cX10_book 64 = .ok (.getfield 32, 3) := by decide +kernel
theorem dX10_book_67 : decode cX10_book 67 = .ok (.iconst 2, 1) := by decide +kernel
theorem dX10_book_68 : decode cX10_book 68 = .ok (.aload_n 0, 1) := by decide +kernel
theorem dX10_book_69 : decode cX10_book 69 = .ok (.getfield 296, 3) := by decide +kernel
theorem dX10_book_72 : decode cX10_book 72 = .ok (.imul, 1) := by decide +kernel
theorem dX10_book_73 : decode cX10_book 73 = .ok (.iconst 1, 1) := by decide +kernel
theorem dX10_book_74 : decode cX10_book 74 = .ok (.iadd, 1) := by decide +kernel
theorem dX10_book_75 : decode cX10_book 75 = .ok (.iload_n 2, 1) := by decide +kernel
theorem dX10_book_76 : decode cX10_book 76 = .ok (.iastore, 1) := by decide +kernel
theorem dX10_book_77 : decode cX10_book 77 = .ok (.aload_n 0, 1) := by decide +kernel
theorem dX10_book_78 : decode cX10_book 78 = .ok (.dup, 1) := by decide +kernel
theorem dX10_book_79 : decode cX10_book 79 = .ok (.getfield 296, 3) := by decide +kernel
theorem dX10_book_82 : decode cX10_book 82 = .ok (.iconst 1, 1) := by decide +kernel
theorem dX10_book_83 : decode cX10_book 83 = .ok (.iadd, 1) := by decide +kernel
theorem dX10_book_84 : decode cX10_book 84 = .ok (.putfield 296, 3) := by decide +kernel
theorem dX10_book_87 : decode cX10_book 87 = .ok (.aload_n 0, 1) := by decide +kernel
theorem dX10_book_88 : decode cX10_book 88 = .ok (.getfield 296, 3) := by decide +kernel
theorem dX10_book_91 : decode cX10_book 91 = .ok (.ireturn, 1) := by decide +kernel
theorem dX10_looked_0 : decode cX10_looked 0 = .ok (.iconst 0, 1) := by decide +kernel
theorem dX10_looked_1 : decode cX10_looked 1 = .ok (.istore_n 1, 1) := by decide +kernel
theorem dX10_looked_2 : decode cX10_looked 2 = .ok (.iload_n 1, 1) := by decide +kernel
theorem dX10_looked_3 : decode cX10_looked 3 = .ok (.aload_n 0, 1) := by decide +kernel
theorem dX10_looked_4 : decode cX10_looked 4 = .ok (.getfield 296, 3) := by decide +kernel
theorem dX10_looked_7 : decode cX10_looked 7 = .ok (.if_icmp .ge 54, 3) := by decide +kernel
theorem dX10_looked_10 : decode cX10_looked 10 = .ok (.aload_n 0, 1) := by decide +kernel
theorem dX10_looked_11 : decode cX10_looked 11 = .ok (.aload_n 0, 1) := by decide +kernel
theorem dX10_looked_12 : decode cX10_looked 12 = .ok (.getfield 32, 3) := by decide +kernel
theorem dX10_looked_15 : decode cX10_looked 15 = .ok (.iconst 2, 1) := by decide +kernel
theorem dX10_looked_16 : decode cX10_looked 16 = .ok (.iload_n 1, 1) := by decide +kernel
theorem dX10_looked_17 : decode cX10_looked 17 = .ok (.imul, 1) := by decide +kernel
theorem dX10_looked_18 : decode cX10_looked 18 = .ok (.iaload, 1) := by decide +kernel
theorem dX10_looked_19 : decode cX10_looked 19 = .ok (.invokevirtual 104, 3) := by decide +kernel
theorem dX10_looked_22 : decode cX10_looked 22 = .ok (.ifCond .eq 31, 3) := by decide +kernel
theorem dX10_looked_25 : decode cX10_looked 25 = .ok (.aload_n 0, 1) := by decide +kernel
theorem dX10_looked_26 : decode cX10_looked 26 = .ok (.getfield 15, 3) := by decide +kernel
theorem dX10_looked_29 : decode cX10_looked 29 = .ok (.aload_n 0, 1) := by decide +kernel
theorem dX10_looked_30 : decode cX10_looked 30 = .ok (.getfield 32, 3) := by decide +kernel
theorem dX10_looked_33 : decode cX10_looked 33 = .ok (.iconst 2, 1) := by decide +kernel
theorem dX10_looked_34 : decode cX10_looked 34 = .ok (.iload_n 1, 1) := by decide +kernel
theorem dX10_looked_35 : decode cX10_looked 35 = .ok (.imul, 1) := by decide +kernel
theorem dX10_looked_36 : decode cX10_looked 36 = .ok (.iaload, 1) := by decide +kernel
theorem dX10_looked_37 : decode cX10_looked 37 = .ok (.laload, 1) := by decide +kernel
theorem dX10_looked_38 : decode cX10_looked 38 = .ok (.aload_n 0, 1) := by decide +kernel
theorem dX10_looked_39 : decode cX10_looked 39 = .ok (.getfield 32, 3) := by decide +kernel
theorem dX10_looked_42 : decode cX10_looked 42 = .ok (.iconst 2, 1) := by decide +kernel
theorem dX10_looked_43 : decode cX10_looked 43 = .ok (.iload_n 1, 1) := by decide +kernel
theorem dX10_looked_44 : decode cX10_looked 44 = .ok (.imul, 1) := by decide +kernel
theorem dX10_looked_45 : decode cX10_looked 45 = .ok (.iconst 1, 1) := by decide +kernel
theorem dX10_looked_46 : decode cX10_looked 46 = .ok (.iadd, 1) := by decide +kernel
theorem dX10_looked_47 : decode cX10_looked 47 = .ok (.iaload, 1) := by decide +kernel
theorem dX10_looked_48 : decode cX10_looked 48 = .ok (.i2l, 1) := by decide +kernel
theorem dX10_looked_49 : decode cX10_looked 49 = .ok (.lcmp, 1) := by decide +kernel
theorem dX10_looked_50 : decode cX10_looked 50 = .ok (.ifCond .eq 5, 3) := by decide +kernel
theorem dX10_looked_53 : decode cX10_looked 53 = .ok (.iload_n 1, 1) := by decide +kernel
theorem dX10_looked_54 : decode cX10_looked 54 = .ok (.ireturn, 1) := by decide +kernel
theorem dX10_looked_55 : decode cX10_looked 55 = .ok (.iinc 1 1, 3) := by decide +kernel
theorem dX10_looked_58 : decode cX10_looked 58 = .ok (.goto (-56), 3) := by decide +kernel
theorem dX10_looked_61 : decode cX10_looked 61 = .ok (.bipush (-5), 2) := by decide +kernel
theorem dX10_looked_63 : decode cX10_looked 63 = .ok (.ireturn, 1) := by decide +kernel
theorem dX10_isTape_0 : decode cX10_isTape 0 = .ok (.iload_n 0, 1) := by decide +kernel
theorem dX10_isTape_1 : decode cX10_isTape 1 = .ok (.i2l, 1) := by decide +kernel
theorem dX10_isTape_2 : decode cX10_isTape 2 = .ok (.lconst 0, 1) := by decide +kernel
theorem dX10_isTape_3 : decode cX10_isTape 3 = .ok (.ldc2_w 180, 3) := by decide +kernel
theorem dX10_isTape_6 : decode cX10_isTape 6 = .ok (.invokestatic 96, 3) := by decide +kernel
theorem dX10_isTape_9 : decode cX10_isTape 9 = .ok (.ireturn, 1) := by decide +kernel
theorem dX10_judge_0 : decode cX10_judge 0 = .ok (.iload_n 1, 1) := by decide +kernel
theorem dX10_judge_1 : decode cX10_judge 1 = .ok (.invokestatic 299, 3) := by decide +kernel
theorem dX10_judge_4 : decode cX10_judge 4 = .ok (.ifCond .ne 5, 3) := by decide +kernel
theorem dX10_judge_7 : decode cX10_judge 7 = .ok (.iconst (-1), 1) := by decide +kernel
theorem dX10_judge_8 : decode cX10_judge 8 = .ok (.ireturn, 1) := by decide +kernel
theorem dX10_judge_9 : decode cX10_judge 9 = .ok (.aload_n 0, 1) := by decide +kernel
theorem dX10_judge_10 : decode cX10_judge 10 = .ok (.getfield 81, 3) := by decide +kernel
theorem dX10_judge_13 : decode cX10_judge 13 = .ok (.iload_n 1, 1) := by decide +kernel
theorem dX10_judge_14 : decode cX10_judge 14 = .ok (.iaload, 1) := by decide +kernel
theorem dX10_judge_15 : decode cX10_judge 15 = .ok (.ifCond .ge 6, 3) := by decide +kernel
theorem dX10_judge_18 : decode cX10_judge 18 = .ok (.bipush 100, 2) := by decide +kernel
theorem dX10_judge_20 : decode cX10_judge 20 = .ok (.ireturn, 1) := by decide +kernel
theorem dX10_judge_21 : decode cX10_judge 21 = .ok (.aload_n 0, 1) := by decide +kernel
theorem dX10_judge_22 : decode cX10_judge 22 = .ok (.getfield 81, 3) := by decide +kernel
theorem dX10_judge_25 : decode cX10_judge 25 = .ok (.iload_n 1, 1) := by decide +kernel
theorem dX10_judge_26 : decode cX10_judge 26 = .ok (.iaload, 1) := by decide +kernel
theorem dX10_judge_27 : decode cX10_judge 27 = .ok (.iconst 1, 1) := by decide +kernel
theorem dX10_judge_28 : decode cX10_judge 28 = .ok (.if_icmp .eq 6, 3) := by decide +kernel
theorem dX10_judge_31 : decode cX10_judge 31 = .ok (.bipush (-12), 2) := by decide +kernel
theorem dX10_judge_33 : decode cX10_judge 33 = .ok (.ireturn, 1) := by decide +kernel
theorem dX10_judge_34 : decode cX10_judge 34 = .ok (.iconst 0, 1) := by decide +kernel
theorem dX10_judge_35 : decode cX10_judge 35 = .ok (.istore_n 3, 1) := by decide +kernel
theorem dX10_judge_36 : decode cX10_judge 36 = .ok (.iload_n 3, 1) := by decide +kernel
theorem dX10_judge_37 : decode cX10_judge 37 = .ok (.aload_n 0, 1) := by decide +kernel
theorem dX10_judge_38 : decode cX10_judge 38 = .ok (.getfield 9, 3) := by decide +kernel
theorem dX10_judge_41 : decode cX10_judge 41 = .ok (.if_icmp .gt 59, 3) := by decide +kernel
theorem dX10_judge_44 : decode cX10_judge 44 = .ok (.iload_n 2, 1) := by decide +kernel
theorem dX10_judge_45 : decode cX10_judge 45 = .ok (.ifCond .lt 19, 3) := by decide +kernel
theorem dX10_judge_48 : decode cX10_judge 48 = .ok (.iload_n 2, 1) := by decide +kernel
theorem dX10_judge_49 : decode cX10_judge 49 = .ok (.i2l, 1) := by decide +kernel
theorem dX10_judge_50 : decode cX10_judge 50 = .ok (.iload_n 3, 1) := by decide +kernel
theorem dX10_judge_51 : decode cX10_judge 51 = .ok (.i2l, 1) := by decide +kernel
theorem dX10_judge_52 : decode cX10_judge 52 = .ok (.ladd, 1) := by decide +kernel
theorem dX10_judge_53 : decode cX10_judge 53 = .ok (.aload_n 0, 1) := by decide +kernel
theorem dX10_judge_54 : decode cX10_judge 54 = .ok (.getfield 84, 3) := by decide +kernel
theorem dX10_judge_57 : decode cX10_judge 57 = .ok (.iload_n 1, 1) := by decide +kernel
theorem dX10_judge_58 : decode cX10_judge 58 = .ok (.iaload, 1) := by decide +kernel
theorem dX10_judge_59 : decode cX10_judge 59 = .ok (.i2l, 1) := by decide +kernel
theorem dX10_judge_60 : decode cX10_judge 60 = .ok (.lcmp, 1) := by decide +kernel
theorem dX10_judge_61 : decode cX10_judge 61 = .ok (.ifCond .lt 8, 3) := by decide +kernel
theorem dX10_judge_64 : decode cX10_judge 64 = .ok (.bipush 100, 2) := by decide +kernel
theorem dX10_judge_66 : decode cX10_judge 66 = .ok (.iload_n 3, 1) := by decide +kernel
theorem dX10_judge_67 : decode cX10_judge 67 = .ok (.iadd, 1) := by decide +kernel
theorem dX10_judge_68 : decode cX10_judge 68 = .ok (.ireturn, 1) := by decide +kernel
theorem dX10_judge_69 : decode cX10_judge 69 = .ok (.aload_n 0, 1) := by decide +kernel
theorem dX10_judge_70 : decode cX10_judge 70 = .ok (.getfield 87, 3) := by decide +kernel
theorem dX10_judge_73 : decode cX10_judge 73 = .ok (.bipush 60, 2) := by decide +kernel
theorem dX10_judge_75 : decode cX10_judge 75 = .ok (.iload_n 1, 1) := by decide +kernel
theorem dX10_judge_76 : decode cX10_judge 76 = .ok (.imul, 1) := by decide +kernel
theorem dX10_judge_77 : decode cX10_judge 77 = .ok (.iload_n 2, 1) := by decide +kernel
theorem dX10_judge_78 : decode cX10_judge 78 = .ok (.iadd, 1) := by decide +kernel
theorem dX10_judge_79 : decode cX10_judge 79 = .ok (.iload_n 3, 1) := by decide +kernel
theorem dX10_judge_80 : decode cX10_judge 80 = .ok (.iadd, 1) := by decide +kernel
theorem dX10_judge_81 : decode cX10_judge 81 = .ok (.laload, 1) := by decide +kernel
theorem dX10_judge_82 : decode cX10_judge 82 = .ok (.aload_n 0, 1) := by decide +kernel
theorem dX10_judge_83 : decode cX10_judge 83 = .ok (.getfield 15, 3) := by decide +kernel
theorem dX10_judge_86 : decode cX10_judge 86 = .ok (.iload_n 3, 1) := by decide +kernel
theorem dX10_judge_87 : decode cX10_judge 87 = .ok (.laload, 1) := by decide +kernel
theorem dX10_judge_88 : decode cX10_judge 88 = .ok (.lcmp, 1) := by decide +kernel
theorem dX10_judge_89 : decode cX10_judge 89 = .ok (.ifCond .eq 5, 3) := by decide +kernel
theorem dX10_judge_92 : decode cX10_judge 92 = .ok (.iload_n 3, 1) := by decide +kernel
theorem dX10_judge_93 : decode cX10_judge 93 = .ok (.ireturn, 1) := by decide +kernel
theorem dX10_judge_94 : decode cX10_judge 94 = .ok (.iinc 3 1, 3) := by decide +kernel
theorem dX10_judge_97 : decode cX10_judge 97 = .ok (.goto (-61), 3) := by decide +kernel
theorem dX10_judge_100 : decode cX10_judge 100 = .ok (.bipush (-5), 2) := by decide +kernel
theorem dX10_judge_102 : decode cX10_judge 102 = .ok (.ireturn, 1) := by decide +kernel
theorem dX10_lays_0 : decode cX10_lays 0 = .ok (.iconst 0, 1) := by decide +kernel
theorem dX10_lays_1 : decode cX10_lays 1 = .ok (.istore_n 2, 1) := by decide +kernel
theorem dX10_lays_2 : decode cX10_lays 2 = .ok (.aload_n 0, 1) := by decide +kernel
theorem dX10_lays_3 : decode cX10_lays 3 = .ok (.getfield 93, 3) := by decide +kernel
theorem dX10_lays_6 : decode cX10_lays 6 = .ok (.iload_n 2, 1) := by decide +kernel
theorem dX10_lays_7 : decode cX10_lays 7 = .ok (.iload_n 1, 1) := by decide +kernel
theorem dX10_lays_8 : decode cX10_lays 8 = .ok (.ifCond .eq 12, 3) := by decide +kernel
theorem dX10_lays_11 : decode cX10_lays 11 = .ok (.aload_n 0, 1) := by decide +kernel
theorem dX10_lays_12 : decode cX10_lays 12 = .ok (.getfield 93, 3) := by decide +kernel
theorem dX10_lays_15 : decode cX10_lays 15 = .ok (.iload_n 2, 1) := by decide +kernel
theorem dX10_lays_16 : decode cX10_lays 16 = .ok (.iaload, 1) := by decide +kernel
theorem dX10_lays_17 : decode cX10_lays 17 = .ok (.goto 7, 3) := by decide +kernel
theorem dX10_lays_20 : decode cX10_lays 20 = .ok (.aload_n 0, 1) := by decide +kernel
theorem dX10_lays_21 : decode cX10_lays 21 = .ok (.getfield 9, 3) := by decide +kernel
theorem dX10_lays_24 : decode cX10_lays 24 = .ok (.iastore, 1) := by decide +kernel
theorem dX10_lays_25 : decode cX10_lays 25 = .ok (.aload_n 0, 1) := by decide +kernel
theorem dX10_lays_26 : decode cX10_lays 26 = .ok (.aload_n 0, 1) := by decide +kernel
theorem dX10_lays_27 : decode cX10_lays 27 = .ok (.getfield 93, 3) := by decide +kernel
theorem dX10_lays_30 : decode cX10_lays 30 = .ok (.iload_n 2, 1) := by decide +kernel
theorem dX10_lays_31 : decode cX10_lays 31 = .ok (.iaload, 1) := by decide +kernel
theorem dX10_lays_32 : decode cX10_lays 32 = .ok (.putfield 9, 3) := by decide +kernel
theorem dX10_lays_35 : decode cX10_lays 35 = .ok (.iinc 2 1, 3) := by decide +kernel
theorem dX10_lays_38 : decode cX10_lays 38 = .ok (.aload_n 0, 1) := by decide +kernel
theorem dX10_lays_39 : decode cX10_lays 39 = .ok (.getfield 93, 3) := by decide +kernel
theorem dX10_lays_42 : decode cX10_lays 42 = .ok (.iload_n 2, 1) := by decide +kernel
theorem dX10_lays_43 : decode cX10_lays 43 = .ok (.iload_n 1, 1) := by decide +kernel
theorem dX10_lays_44 : decode cX10_lays 44 = .ok (.ifCond .eq 12, 3) := by decide +kernel
theorem dX10_lays_47 : decode cX10_lays 47 = .ok (.aload_n 0, 1) := by decide +kernel
theorem dX10_lays_48 : decode cX10_lays 48 = .ok (.getfield 93, 3) := by decide +kernel
theorem dX10_lays_51 : decode cX10_lays 51 = .ok (.iload_n 2, 1) := by decide +kernel
theorem dX10_lays_52 : decode cX10_lays 52 = .ok (.iaload, 1) := by decide +kernel
theorem dX10_lays_53 : decode cX10_lays 53 = .ok (.goto 7, 3) := by decide +kernel
theorem dX10_lays_56 : decode cX10_lays 56 = .ok (.aload_n 0, 1) := by decide +kernel
theorem dX10_lays_57 : decode cX10_lays 57 = .ok (.getfield 19, 3) := by decide +kernel
theorem dX10_lays_60 : decode cX10_lays 60 = .ok (.iastore, 1) := by decide +kernel
theorem dX10_lays_61 : decode cX10_lays 61 = .ok (.aload_n 0, 1) := by decide +kernel
theorem dX10_lays_62 : decode cX10_lays 62 = .ok (.aload_n 0, 1) := by decide +kernel
theorem dX10_lays_63 : decode cX10_lays 63 = .ok (.getfield 93, 3) := by decide +kernel
theorem dX10_lays_66 : decode cX10_lays 66 = .ok (.iload_n 2, 1) := by decide +kernel
theorem dX10_lays_67 : decode cX10_lays 67 = .ok (.iaload, 1) := by decide +kernel
theorem dX10_lays_68 : decode cX10_lays 68 = .ok (.putfield 19, 3) := by decide +kernel
theorem dX10_lays_71 : decode cX10_lays 71 = .ok (.iinc 2 1, 3) := by decide +kernel
theorem dX10_lays_74 : decode cX10_lays 74 = .ok (.aload_n 0, 1) := by decide +kernel
theorem dX10_lays_75 : decode cX10_lays 75 = .ok (.getfield 93, 3) := by decide +kernel
theorem dX10_lays_78 : decode cX10_lays 78 = .ok (.iload_n 2, 1) := by decide +kernel
theorem dX10_lays_79 : decode cX10_lays 79 = .ok (.iload_n 1, 1) := by decide +kernel
theorem dX10_lays_80 : decode cX10_lays 80 = .ok (.ifCond .eq 12, 3) := by decide +kernel
theorem dX10_lays_83 : decode cX10_lays 83 = .ok (.aload_n 0, 1) := by decide +kernel
theorem dX10_lays_84 : decode cX10_lays 84 = .ok (.getfield 93, 3) := by decide +kernel
theorem dX10_lays_87 : decode cX10_lays 87 = .ok (.iload_n 2, 1) := by decide +kernel
theorem dX10_lays_88 : decode cX10_lays 88 = .ok (.iaload, 1) := by decide +kernel
theorem dX10_lays_89 : decode cX10_lays 89 = .ok (.goto 7, 3) := by decide +kernel
theorem dX10_lays_92 : decode cX10_lays 92 = .ok (.aload_n 0, 1) := by decide +kernel
theorem dX10_lays_93 : decode cX10_lays 93 = .ok (.getfield 22, 3) := by decide +kernel
theorem dX10_lays_96 : decode cX10_lays 96 = .ok (.iastore, 1) := by decide +kernel
theorem dX10_lays_97 : decode cX10_lays 97 = .ok (.aload_n 0, 1) := by decide +kernel
theorem dX10_lays_98 : decode cX10_lays 98 = .ok (.aload_n 0, 1) := by decide +kernel
theorem dX10_lays_99 : decode cX10_lays 99 = .ok (.getfield 93, 3) := by decide +kernel
theorem dX10_lays_102 : decode cX10_lays 102 = .ok (.iload_n 2, 1) := by decide +kernel
theorem dX10_lays_103 : decode cX10_lays 103 = .ok (.iaload, 1) := by decide +kernel
theorem dX10_lays_104 : decode cX10_lays 104 = .ok (.putfield 22, 3) := by decide +kernel
theorem dX10_lays_107 : decode cX10_lays 107 = .ok (.iinc 2 1, 3) := by decide +kernel
theorem dX10_lays_110 : decode cX10_lays 110 = .ok (.aload_n 0, 1) := by decide +kernel
theorem dX10_lays_111 : decode cX10_lays 111 = .ok (.getfield 93, 3) := by decide +kernel
theorem dX10_lays_114 : decode cX10_lays 114 = .ok (.iload_n 2, 1) := by decide +kernel
theorem dX10_lays_115 : decode cX10_lays 115 = .ok (.iload_n 1, 1) := by decide +kernel
theorem dX10_lays_116 : decode cX10_lays 116 = .ok (.ifCond .eq 12, 3) := by decide +kernel
theorem dX10_lays_119 : decode cX10_lays 119 = .ok (.aload_n 0, 1) := by decide +kernel
theorem dX10_lays_120 : decode cX10_lays 120 = .ok (.getfield 93, 3) := by decide +kernel
theorem dX10_lays_123 : decode cX10_lays 123 = .ok (.iload_n 2, 1) := by decide +kernel
theorem dX10_lays_124 : decode cX10_lays 124 = .ok (.iaload, 1) := by decide +kernel
theorem dX10_lays_125 : decode cX10_lays 125 = .ok (.goto 7, 3) := by decide +kernel
theorem dX10_lays_128 : decode cX10_lays 128 = .ok (.aload_n 0, 1) := by decide +kernel
theorem dX10_lays_129 : decode cX10_lays 129 = .ok (.getfield 276, 3) := by decide +kernel
theorem dX10_lays_132 : decode cX10_lays 132 = .ok (.iastore, 1) := by decide +kernel
theorem dX10_lays_133 : decode cX10_lays 133 = .ok (.aload_n 0, 1) := by decide +kernel
theorem dX10_lays_134 : decode cX10_lays 134 = .ok (.aload_n 0, 1) := by decide +kernel
theorem dX10_lays_135 : decode cX10_lays 135 = .ok (.getfield 93, 3) := by decide +kernel
theorem dX10_lays_138 : decode cX10_lays 138 = .ok (.iload_n 2, 1) := by decide +kernel
theorem dX10_lays_139 : decode cX10_lays 139 = .ok (.iaload, 1) := by decide +kernel
theorem dX10_lays_140 : decode cX10_lays 140 = .ok (.putfield 276, 3) := by decide +kernel
theorem dX10_lays_143 : decode cX10_lays 143 = .ok (.iinc 2 1, 3) := by decide +kernel
theorem dX10_lays_146 : decode cX10_lays 146 = .ok (.aload_n 0, 1) := by decide +kernel
theorem dX10_lays_147 : decode cX10_lays 147 = .ok (.getfield 93, 3) := by decide +kernel
theorem dX10_lays_150 : decode cX10_lays 150 = .ok (.iload_n 2, 1) := by decide +kernel
theorem dX10_lays_151 : decode cX10_lays 151 = .ok (.iload_n 1, 1) := by decide +kernel
theorem dX10_lays_152 : decode cX10_lays 152 = .ok (.ifCond .eq 12, 3) := by decide +kernel
theorem dX10_lays_155 : decode cX10_lays 155 = .ok (.aload_n 0, 1) := by decide +kernel
theorem dX10_lays_156 : decode cX10_lays 156 = .ok (.getfield 93, 3) := by decide +kernel
theorem dX10_lays_159 : decode cX10_lays 159 = .ok (.iload_n 2, 1) := by decide +kernel
theorem dX10_lays_160 : decode cX10_lays 160 = .ok (.iaload, 1) := by decide +kernel
theorem dX10_lays_161 : decode cX10_lays 161 = .ok (.goto 7, 3) := by decide +kernel
theorem dX10_lays_164 : decode cX10_lays 164 = .ok (.aload_n 0, 1) := by decide +kernel
theorem dX10_lays_165 : decode cX10_lays 165 = .ok (.getfield 283, 3) := by decide +kernel
theorem dX10_lays_168 : decode cX10_lays 168 = .ok (.iastore, 1) := by decide +kernel
theorem dX10_lays_169 : decode cX10_lays 169 = .ok (.aload_n 0, 1) := by decide +kernel
theorem dX10_lays_170 : decode cX10_lays 170 = .ok (.aload_n 0, 1) := by decide +kernel
theorem dX10_lays_171 : decode cX10_lays 171 = .ok (.getfield 93, 3) := by decide +kernel
theorem dX10_lays_174 : decode cX10_lays 174 = .ok (.iload_n 2, 1) := by decide +kernel
theorem dX10_lays_175 : decode cX10_lays 175 = .ok (.iaload, 1) := by decide +kernel
theorem dX10_lays_176 : decode cX10_lays 176 = .ok (.putfield 283, 3) := by decide +kernel
theorem dX10_lays_179 : decode cX10_lays 179 = .ok (.iinc 2 1, 3) := by decide +kernel
theorem dX10_lays_182 : decode cX10_lays 182 = .ok (.aload_n 0, 1) := by decide +kernel
theorem dX10_lays_183 : decode cX10_lays 183 = .ok (.getfield 93, 3) := by decide +kernel
theorem dX10_lays_186 : decode cX10_lays 186 = .ok (.iload_n 2, 1) := by decide +kernel
theorem dX10_lays_187 : decode cX10_lays 187 = .ok (.iload_n 1, 1) := by decide +kernel
theorem dX10_lays_188 : decode cX10_lays 188 = .ok (.ifCond .eq 12, 3) := by decide +kernel
theorem dX10_lays_191 : decode cX10_lays 191 = .ok (.aload_n 0, 1) := by decide +kernel
theorem dX10_lays_192 : decode cX10_lays 192 = .ok (.getfield 93, 3) := by decide +kernel
theorem dX10_lays_195 : decode cX10_lays 195 = .ok (.iload_n 2, 1) := by decide +kernel
theorem dX10_lays_196 : decode cX10_lays 196 = .ok (.iaload, 1) := by decide +kernel
theorem dX10_lays_197 : decode cX10_lays 197 = .ok (.goto 7, 3) := by decide +kernel
theorem dX10_lays_200 : decode cX10_lays 200 = .ok (.aload_n 0, 1) := by decide +kernel
theorem dX10_lays_201 : decode cX10_lays 201 = .ok (.getfield 296, 3) := by decide +kernel
theorem dX10_lays_204 : decode cX10_lays 204 = .ok (.iastore, 1) := by decide +kernel
theorem dX10_lays_205 : decode cX10_lays 205 = .ok (.aload_n 0, 1) := by decide +kernel
theorem dX10_lays_206 : decode cX10_lays 206 = .ok (.aload_n 0, 1) := by decide +kernel
theorem dX10_lays_207 : decode cX10_lays 207 = .ok (.getfield 93, 3) := by decide +kernel
theorem dX10_lays_210 : decode cX10_lays 210 = .ok (.iload_n 2, 1) := by decide +kernel
theorem dX10_lays_211 : decode cX10_lays 211 = .ok (.iaload, 1) := by decide +kernel
theorem dX10_lays_212 : decode cX10_lays 212 = .ok (.putfield 296, 3) := by decide +kernel
theorem dX10_lays_215 : decode cX10_lays 215 = .ok (.iinc 2 1, 3) := by decide +kernel
theorem dX10_lays_218 : decode cX10_lays 218 = .ok (.aload_n 0, 1) := by decide +kernel
theorem dX10_lays_219 : decode cX10_lays 219 = .ok (.iload_n 1, 1) := by decide +kernel
theorem dX10_lays_220 : decode cX10_lays 220 = .ok (.aload_n 0, 1) := by decide +kernel
theorem dX10_lays_221 : decode cX10_lays 221 = .ok (.getfield 25, 3) := by decide +kernel
theorem dX10_lays_224 : decode cX10_lays 224 = .ok (.iload_n 2, 1) := by decide +kernel
theorem dX10_lays_225 : decode cX10_lays 225 = .ok (.invokevirtual 302, 3) := by decide +kernel
theorem dX10_lays_228 : decode cX10_lays 228 = .ok (.aload_n 0, 1) := by decide +kernel
theorem dX10_lays_229 : decode cX10_lays 229 = .ok (.iload_n 1, 1) := by decide +kernel
theorem dX10_lays_230 : decode cX10_lays 230 = .ok (.aload_n 0, 1) := by decide +kernel
theorem dX10_lays_231 : decode cX10_lays 231 = .ok (.getfield 29, 3) := by decide +kernel
theorem dX10_lays_234 : decode cX10_lays 234 = .ok (.iload_n 2, 1) := by decide +kernel
theorem dX10_lays_235 : decode cX10_lays 235 = .ok (.aload_n 0, 1) := by decide +kernel
theorem dX10_lays_236 : decode cX10_lays 236 = .ok (.getfield 25, 3) := by decide +kernel
theorem dX10_lays_239 : decode cX10_lays 239 = .ok (.arraylength, 1) := by decide +kernel
theorem dX10_lays_240 : decode cX10_lays 240 = .ok (.iadd, 1) := by decide +kernel
theorem dX10_lays_241 : decode cX10_lays 241 = .ok (.invokevirtual 302, 3) := by decide +kernel
theorem dX10_lays_244 : decode cX10_lays 244 = .ok (.aload_n 0, 1) := by decide +kernel
theorem dX10_lays_245 : decode cX10_lays 245 = .ok (.iload_n 1, 1) := by decide +kernel
theorem dX10_lays_246 : decode cX10_lays 246 = .ok (.aload_n 0, 1) := by decide +kernel
theorem dX10_lays_247 : decode cX10_lays 247 = .ok (.getfield 32, 3) := by decide +kernel
theorem dX10_lays_250 : decode cX10_lays 250 = .ok (.iload_n 2, 1) := by decide +kernel
theorem dX10_lays_251 : decode cX10_lays 251 = .ok (.aload_n 0, 1) := by decide +kernel
theorem dX10_lays_252 : decode cX10_lays 252 = .ok (.getfield 25, 3) := by decide +kernel
theorem dX10_lays_255 : decode cX10_lays 255 = .ok (.arraylength, 1) := by decide +kernel
theorem dX10_lays_256 : decode cX10_lays 256 = .ok (.iadd, 1) := by decide +kernel
theorem dX10_lays_257 : decode cX10_lays 257 = .ok (.aload_n 0, 1) := by decide +kernel
theorem dX10_lays_258 : decode cX10_lays 258 = .ok (.getfield 29, 3) := by decide +kernel
theorem dX10_lays_261 : decode cX10_lays 261 = .ok (.arraylength, 1) := by decide +kernel
theorem dX10_lays_262 : decode cX10_lays 262 = .ok (.iadd, 1) := by decide +kernel
theorem dX10_lays_263 : decode cX10_lays 263 = .ok (.invokevirtual 302, 3) := by decide +kernel
theorem dX10_lays_266 : decode cX10_lays 266 = .ok (.iconst 0, 1) := by decide +kernel
theorem dX10_lays_267 : decode cX10_lays 267 = .ok (.istore_n 3, 1) := by decide +kernel
theorem dX10_lays_268 : decode cX10_lays 268 = .ok (.iload_n 3, 1) := by decide +kernel
theorem dX10_lays_269 : decode cX10_lays 269 = .ok (.iconst 5, 1) := by decide +kernel
theorem dX10_lays_270 : decode cX10_lays 270 = .ok (.if_icmp .ge 46, 3) := by decide +kernel
theorem dX10_lays_273 : decode cX10_lays 273 = .ok (.aload_n 0, 1) := by decide +kernel
theorem dX10_lays_274 : decode cX10_lays 274 = .ok (.getfield 90, 3) := by decide +kernel
theorem dX10_lays_277 : decode cX10_lays 277 = .ok (.iload_n 3, 1) := by decide +kernel
theorem dX10_lays_278 : decode cX10_lays 278 = .ok (.iload_n 1, 1) := by decide +kernel
theorem dX10_lays_279 : decode cX10_lays 279 = .ok (.ifCond .eq 12, 3) := by decide +kernel
theorem dX10_lays_282 : decode cX10_lays 282 = .ok (.aload_n 0, 1) := by decide +kernel
theorem dX10_lays_283 : decode cX10_lays 283 = .ok (.getfield 90, 3) := by decide +kernel
theorem dX10_lays_286 : decode cX10_lays 286 = .ok (.iload_n 3, 1) := by decide +kernel
theorem dX10_lays_287 : decode cX10_lays 287 = .ok (.laload, 1) := by decide +kernel
theorem dX10_lays_288 : decode cX10_lays 288 = .ok (.goto 9, 3) := by decide +kernel
theorem dX10_lays_291 : decode cX10_lays 291 = .ok (.aload_n 0, 1) := by decide +kernel
theorem dX10_lays_292 : decode cX10_lays 292 = .ok (.getfield 15, 3) := by decide +kernel
theorem dX10_lays_295 : decode cX10_lays 295 = .ok (.iload_n 3, 1) := by decide +kernel
theorem dX10_lays_296 : decode cX10_lays 296 = .ok (.laload, 1) := by decide +kernel
theorem dX10_lays_297 : decode cX10_lays 297 = .ok (.lastore, 1) := by decide +kernel
theorem dX10_lays_298 : decode cX10_lays 298 = .ok (.aload_n 0, 1) := by decide +kernel
theorem dX10_lays_299 : decode cX10_lays 299 = .ok (.getfield 15, 3) := by decide +kernel
theorem dX10_lays_302 : decode cX10_lays 302 = .ok (.iload_n 3, 1) := by decide +kernel
theorem dX10_lays_303 : decode cX10_lays 303 = .ok (.aload_n 0, 1) := by decide +kernel
theorem dX10_lays_304 : decode cX10_lays 304 = .ok (.getfield 90, 3) := by decide +kernel
theorem dX10_lays_307 : decode cX10_lays 307 = .ok (.iload_n 3, 1) := by decide +kernel
theorem dX10_lays_308 : decode cX10_lays 308 = .ok (.laload, 1) := by decide +kernel
theorem dX10_lays_309 : decode cX10_lays 309 = .ok (.lastore, 1) := by decide +kernel
theorem dX10_lays_310 : decode cX10_lays 310 = .ok (.iinc 3 1, 3) := by decide +kernel
theorem dX10_lays_313 : decode cX10_lays 313 = .ok (.goto (-45), 3) := by decide +kernel
theorem dX10_lays_316 : decode cX10_lays 316 = .ok (.return_, 1) := by decide +kernel
theorem dX10_laysRow_0 : decode cX10_laysRow 0 = .ok (.iconst 0, 1) := by decide +kernel
theorem dX10_laysRow_1 : decode cX10_laysRow 1 = .ok (.istore 4, 2) := by decide +kernel
theorem dX10_laysRow_3 : decode cX10_laysRow 3 = .ok (.iload 4, 2) := by decide +kernel
theorem dX10_laysRow_5 : decode cX10_laysRow 5 = .ok (.aload_n 2, 1) := by decide +kernel
theorem dX10_laysRow_6 : decode cX10_laysRow 6 = .ok (.arraylength, 1) := by decide +kernel
theorem dX10_laysRow_7 : decode cX10_laysRow 7 = .ok (.if_icmp .ge 51, 3) := by decide +kernel
theorem dX10_laysRow_10 : decode cX10_laysRow 10 = .ok (.aload_n 0, 1) := by decide +kernel
theorem dX10_laysRow_11 : decode cX10_laysRow 11 = .ok (.getfield 93, 3) := by decide +kernel
theorem dX10_laysRow_14 : decode cX10_laysRow 14 = .ok (.iload_n 3, 1) := by decide +kernel
theorem dX10_laysRow_15 : decode cX10_laysRow 15 = .ok (.iload 4, 2) := by decide +kernel
theorem dX10_laysRow_17 : decode cX10_laysRow 17 = .ok (.iadd, 1) := by decide +kernel
theorem dX10_laysRow_18 : decode cX10_laysRow 18 = .ok (.iload_n 1, 1) := by decide +kernel
theorem dX10_laysRow_19 : decode cX10_laysRow 19 = .ok (.ifCond .eq 15, 3) := by decide +kernel
theorem dX10_laysRow_22 : decode cX10_laysRow 22 = .ok (.aload_n 0, 1) := by decide +kernel
theorem dX10_laysRow_23 : decode cX10_laysRow 23 = .ok (.getfield 93, 3) := by decide +kernel
theorem dX10_laysRow_26 : decode cX10_laysRow 26 = .ok (.iload_n 3, 1) := by decide +kernel
theorem dX10_laysRow_27 : decode cX10_laysRow 27 = .ok (.iload 4, 2) := by decide +kernel
theorem dX10_laysRow_29 : decode cX10_laysRow 29 = .ok (.iadd, 1) := by decide +kernel
theorem dX10_laysRow_30 : decode cX10_laysRow 30 = .ok (.iaload, 1) := by decide +kernel
theorem dX10_laysRow_31 : decode cX10_laysRow 31 = .ok (.goto 7, 3) := by decide +kernel
theorem dX10_laysRow_34 : decode cX10_laysRow 34 = .ok (.aload_n 2, 1) := by decide +kernel
theorem dX10_laysRow_35 : decode cX10_laysRow 35 = .ok (.iload 4, 2) := by decide +kernel
theorem dX10_laysRow_37 : decode cX10_laysRow 37 = .ok (.iaload, 1) := by decide +kernel
theorem dX10_laysRow_38 : decode cX10_laysRow 38 = .ok (.iastore, 1) := by decide +kernel
theorem dX10_laysRow_39 : decode cX10_laysRow 39 = .ok (.aload_n 2, 1) := by decide +kernel
theorem dX10_laysRow_40 : decode cX10_laysRow 40 = .ok (.iload 4, 2) := by decide +kernel
theorem dX10_laysRow_42 : decode cX10_laysRow 42 = .ok (.aload_n 0, 1) := by decide +kernel
theorem dX10_laysRow_43 : decode cX10_laysRow 43 = .ok (.getfield 93, 3) := by decide +kernel
theorem dX10_laysRow_46 : decode cX10_laysRow 46 = .ok (.iload_n 3, 1) := by decide +kernel
theorem dX10_laysRow_47 : decode cX10_laysRow 47 = .ok (.iload 4, 2) := by decide +kernel
theorem dX10_laysRow_49 : decode cX10_laysRow 49 = .ok (.iadd, 1) := by decide +kernel
theorem dX10_laysRow_50 : decode cX10_laysRow 50 = .ok (.iaload, 1) := by decide +kernel
theorem dX10_laysRow_51 : decode cX10_laysRow 51 = .ok (.iastore, 1) := by decide +kernel
theorem dX10_laysRow_52 : decode cX10_laysRow 52 = .ok (.iinc 4 1, 3) := by decide +kernel
theorem dX10_laysRow_55 : decode cX10_laysRow 55 = .ok (.goto (-52), 3) := by decide +kernel
theorem dX10_laysRow_58 : decode cX10_laysRow 58 = .ok (.return_, 1) := by decide +kernel
theorem dX10_image_0 : decode cX10_image 0 = .ok (.aload_n 0, 1) := by decide +kernel
theorem dX10_image_1 : decode cX10_image 1 = .ok (.iconst 1, 1) := by decide +kernel
theorem dX10_image_2 : decode cX10_image 2 = .ok (.putfield 306, 3) := by decide +kernel
theorem dX10_image_5 : decode cX10_image 5 = .ok (.aload_n 0, 1) := by decide +kernel
theorem dX10_image_6 : decode cX10_image 6 = .ok (.iconst 0, 1) := by decide +kernel
theorem dX10_image_7 : decode cX10_image 7 = .ok (.invokevirtual 310, 3) := by decide +kernel
theorem dX10_image_10 : decode cX10_image 10 = .ok (.aload_n 0, 1) := by decide +kernel
theorem dX10_image_11 : decode cX10_image 11 = .ok (.getfield 9, 3) := by decide +kernel
theorem dX10_image_14 : decode cX10_image 14 = .ok (.ireturn, 1) := by decide +kernel
theorem dX10_undo_0 : decode cX10_undo 0 = .ok (.aload_n 0, 1) := by decide +kernel
theorem dX10_undo_1 : decode cX10_undo 1 = .ok (.getfield 306, 3) := by decide +kernel
theorem dX10_undo_4 : decode cX10_undo 4 = .ok (.ifCond .ne 6, 3) := by decide +kernel
theorem dX10_undo_7 : decode cX10_undo 7 = .ok (.bipush (-3), 2) := by decide +kernel
theorem dX10_undo_9 : decode cX10_undo 9 = .ok (.ireturn, 1) := by decide +kernel
theorem dX10_undo_10 : decode cX10_undo 10 = .ok (.aload_n 0, 1) := by decide +kernel
theorem dX10_undo_11 : decode cX10_undo 11 = .ok (.iconst 1, 1) := by decide +kernel
theorem dX10_undo_12 : decode cX10_undo 12 = .ok (.invokevirtual 310, 3) := by decide +kernel
theorem dX10_undo_15 : decode cX10_undo 15 = .ok (.aload_n 0, 1) := by decide +kernel
theorem dX10_undo_16 : decode cX10_undo 16 = .ok (.getfield 9, 3) := by decide +kernel
theorem dX10_undo_19 : decode cX10_undo 19 = .ok (.ireturn, 1) := by decide +kernel
theorem dX10_count_0 : decode cX10_count 0 = .ok (.iload_n 1, 1) := by decide +kernel
theorem dX10_count_1 : decode cX10_count 1 = .ok (.tableswitch 51 0 3 #[31, 36, 41, 46], 31) := by decide +kernel
theorem dX10_count_32 : decode cX10_count 32 = .ok (.aload_n 0, 1) := by decide +kernel
theorem dX10_count_33 : decode cX10_count 33 = .ok (.getfield 276, 3) := by decide +kernel
theorem dX10_count_36 : decode cX10_count 36 = .ok (.ireturn, 1) := by decide +kernel
theorem dX10_count_37 : decode cX10_count 37 = .ok (.aload_n 0, 1) := by decide +kernel
theorem dX10_count_38 : decode cX10_count 38 = .ok (.getfield 283, 3) := by decide +kernel
theorem dX10_count_41 : decode cX10_count 41 = .ok (.ireturn, 1) := by decide +kernel
theorem dX10_count_42 : decode cX10_count 42 = .ok (.aload_n 0, 1) := by decide +kernel
theorem dX10_count_43 : decode cX10_count 43 = .ok (.getfield 296, 3) := by decide +kernel
theorem dX10_count_46 : decode cX10_count 46 = .ok (.ireturn, 1) := by decide +kernel
theorem dX10_count_47 : decode cX10_count 47 = .ok (.aload_n 0, 1) := by decide +kernel
theorem dX10_count_48 : decode cX10_count 48 = .ok (.getfield 233, 3) := by decide +kernel
theorem dX10_count_51 : decode cX10_count 51 = .ok (.ireturn, 1) := by decide +kernel
theorem dX10_count_52 : decode cX10_count 52 = .ok (.bipush (-2), 2) := by decide +kernel
theorem dX10_count_54 : decode cX10_count 54 = .ok (.ireturn, 1) := by decide +kernel
theorem dX10_held_0 : decode cX10_held 0 = .ok (.iload_n 0, 1) := by decide +kernel
theorem dX10_held_1 : decode cX10_held 1 = .ok (.ifCond .ne 10, 3) := by decide +kernel
theorem dX10_held_4 : decode cX10_held 4 = .ok (.lload_n 1, 1) := by decide +kernel
theorem dX10_held_5 : decode cX10_held 5 = .ok (.l2i, 1) := by decide +kernel
theorem dX10_held_6 : decode cX10_held 6 = .ok (.i2b, 1) := by decide +kernel
theorem dX10_held_7 : decode cX10_held 7 = .ok (.i2l, 1) := by decide +kernel
theorem dX10_held_8 : decode cX10_held 8 = .ok (.goto 46, 3) := by decide +kernel
theorem dX10_held_11 : decode cX10_held 11 = .ok (.iload_n 0, 1) := by decide +kernel
theorem dX10_held_12 : decode cX10_held 12 = .ok (.iconst 1, 1) := by decide +kernel
theorem dX10_held_13 : decode cX10_held 13 = .ok (.if_icmp .ne 10, 3) := by decide +kernel
theorem dX10_held_16 : decode cX10_held 16 = .ok (.lload_n 1, 1) := by decide +kernel
theorem dX10_held_17 : decode cX10_held 17 = .ok (.l2i, 1) := by decide +kernel
theorem dX10_held_18 : decode cX10_held 18 = .ok (.i2s, 1) := by decide +kernel
theorem dX10_held_19 : decode cX10_held 19 = .ok (.i2l, 1) := by decide +kernel
theorem dX10_held_20 : decode cX10_held 20 = .ok (.goto 34, 3) := by decide +kernel
theorem dX10_held_23 : decode cX10_held 23 = .ok (.iload_n 0, 1) := by decide +kernel
theorem dX10_held_24 : decode cX10_held 24 = .ok (.iconst 2, 1) := by decide +kernel
theorem dX10_held_25 : decode cX10_held 25 = .ok (.if_icmp .ne 9, 3) := by decide +kernel
theorem dX10_held_28 : decode cX10_held 28 = .ok (.lload_n 1, 1) := by decide +kernel
theorem dX10_held_29 : decode cX10_held 29 = .ok (.l2i, 1) := by decide +kernel
theorem dX10_held_30 : decode cX10_held 30 = .ok (.i2l, 1) := by decide +kernel
theorem dX10_held_31 : decode cX10_held 31 = .ok (.goto 23, 3) := by decide +kernel
theorem dX10_held_34 : decode cX10_held 34 = .ok (.iload_n 0, 1) := by decide +kernel
theorem dX10_held_35 : decode cX10_held 35 = .ok (.iconst 3, 1) := by decide +kernel
theorem dX10_held_36 : decode cX10_held 36 = .ok (.if_icmp .ne 7, 3) := by decide +kernel
theorem dX10_held_39 : decode cX10_held 39 = .ok (.lload_n 1, 1) := by decide +kernel
theorem dX10_held_40 : decode cX10_held 40 = .ok (.goto 14, 3) := by decide +kernel
theorem dX10_held_43 : decode cX10_held 43 = .ok (.lload_n 1, 1) := by decide +kernel
theorem dX10_held_44 : decode cX10_held 44 = .ok (.lconst 0, 1) := by decide +kernel
theorem dX10_held_45 : decode cX10_held 45 = .ok (.lcmp, 1) := by decide +kernel
theorem dX10_held_46 : decode cX10_held 46 = .ok (.ifCond .eq 7, 3) := by decide +kernel
theorem dX10_held_49 : decode cX10_held 49 = .ok (.lconst 1, 1) := by decide +kernel
theorem dX10_held_50 : decode cX10_held 50 = .ok (.goto 4, 3) := by decide +kernel
theorem dX10_held_53 : decode cX10_held 53 = .ok (.lconst 0, 1) := by decide +kernel
theorem dX10_held_54 : decode cX10_held 54 = .ok (.lreturn, 1) := by decide +kernel
theorem dX10_tape_0 : decode cX10_tape 0 = .ok (.iload_n 1, 1) := by decide +kernel
theorem dX10_tape_1 : decode cX10_tape 1 = .ok (.invokestatic 299, 3) := by decide +kernel
theorem dX10_tape_4 : decode cX10_tape 4 = .ok (.ifCond .ne 5, 3) := by decide +kernel
theorem dX10_tape_7 : decode cX10_tape 7 = .ok (.iconst (-1), 1) := by decide +kernel
theorem dX10_tape_8 : decode cX10_tape 8 = .ok (.ireturn, 1) := by decide +kernel
theorem dX10_tape_9 : decode cX10_tape 9 = .ok (.iload_n 2, 1) := by decide +kernel
theorem dX10_tape_10 : decode cX10_tape 10 = .ok (.i2l, 1) := by decide +kernel
theorem dX10_tape_11 : decode cX10_tape 11 = .ok (.ldc2_w 130, 3) := by decide +kernel
theorem dX10_tape_14 : decode cX10_tape 14 = .ok (.ldc2_w 102, 3) := by decide +kernel
theorem dX10_tape_17 : decode cX10_tape 17 = .ok (.invokestatic 96, 3) := by decide +kernel
theorem dX10_tape_20 : decode cX10_tape 20 = .ok (.ifCond .eq 13, 3) := by decide +kernel
theorem dX10_tape_23 : decode cX10_tape 23 = .ok (.iload_n 2, 1) := by decide +kernel
theorem dX10_tape_24 : decode cX10_tape 24 = .ok (.ifCond .lt 12, 3) := by decide +kernel
theorem dX10_tape_27 : decode cX10_tape 27 = .ok (.iload_n 3, 1) := by decide +kernel
theorem dX10_tape_28 : decode cX10_tape 28 = .ok (.bipush 60, 2) := by decide +kernel
theorem dX10_tape_30 : decode cX10_tape 30 = .ok (.if_icmp .le 6, 3) := by decide +kernel
theorem dX10_tape_33 : decode cX10_tape 33 = .ok (.bipush (-2), 2) := by decide +kernel
theorem dX10_tape_35 : decode cX10_tape 35 = .ok (.ireturn, 1) := by decide +kernel
theorem dX10_tape_36 : decode cX10_tape 36 = .ok (.iload_n 2, 1) := by decide +kernel
theorem dX10_tape_37 : decode cX10_tape 37 = .ok (.ifCond .lt 10, 3) := by decide +kernel
theorem dX10_tape_40 : decode cX10_tape 40 = .ok (.iload_n 3, 1) := by decide +kernel
theorem dX10_tape_41 : decode cX10_tape 41 = .ok (.ifCond .ge 6, 3) := by decide +kernel
theorem dX10_tape_44 : decode cX10_tape 44 = .ok (.bipush (-14), 2) := by decide +kernel
theorem dX10_tape_46 : decode cX10_tape 46 = .ok (.ireturn, 1) := by decide +kernel
theorem dX10_tape_47 : decode cX10_tape 47 = .ok (.aload_n 0, 1) := by decide +kernel
theorem dX10_tape_48 : decode cX10_tape 48 = .ok (.getfield 81, 3) := by decide +kernel
theorem dX10_tape_51 : decode cX10_tape 51 = .ok (.iload_n 1, 1) := by decide +kernel
theorem dX10_tape_52 : decode cX10_tape 52 = .ok (.iload_n 2, 1) := by decide +kernel
theorem dX10_tape_53 : decode cX10_tape 53 = .ok (.iastore, 1) := by decide +kernel
theorem dX10_tape_54 : decode cX10_tape 54 = .ok (.aload_n 0, 1) := by decide +kernel
theorem dX10_tape_55 : decode cX10_tape 55 = .ok (.getfield 84, 3) := by decide +kernel
theorem dX10_tape_58 : decode cX10_tape 58 = .ok (.iload_n 1, 1) := by decide +kernel
theorem dX10_tape_59 : decode cX10_tape 59 = .ok (.iload_n 2, 1) := by decide +kernel
theorem dX10_tape_60 : decode cX10_tape 60 = .ok (.ifCond .ge 7, 3) := by decide +kernel
theorem dX10_tape_63 : decode cX10_tape 63 = .ok (.iconst 0, 1) := by decide +kernel
theorem dX10_tape_64 : decode cX10_tape 64 = .ok (.goto 4, 3) := by decide +kernel
theorem dX10_tape_67 : decode cX10_tape 67 = .ok (.iload_n 3, 1) := by decide +kernel
theorem dX10_tape_68 : decode cX10_tape 68 = .ok (.iastore, 1) := by decide +kernel
theorem dX10_tape_69 : decode cX10_tape 69 = .ok (.iconst 0, 1) := by decide +kernel
theorem dX10_tape_70 : decode cX10_tape 70 = .ok (.istore 4, 2) := by decide +kernel
theorem dX10_tape_72 : decode cX10_tape 72 = .ok (.iload 4, 2) := by decide +kernel
theorem dX10_tape_74 : decode cX10_tape 74 = .ok (.bipush 60, 2) := by decide +kernel
theorem dX10_tape_76 : decode cX10_tape 76 = .ok (.if_icmp .ge 22, 3) := by decide +kernel
theorem dX10_tape_79 : decode cX10_tape 79 = .ok (.aload_n 0, 1) := by decide +kernel
theorem dX10_tape_80 : decode cX10_tape 80 = .ok (.getfield 87, 3) := by decide +kernel
theorem dX10_tape_83 : decode cX10_tape 83 = .ok (.bipush 60, 2) := by decide +kernel
theorem dX10_tape_85 : decode cX10_tape 85 = .ok (.iload_n 1, 1) := by decide +kernel
theorem dX10_tape_86 : decode cX10_tape 86 = .ok (.imul, 1) := by decide +kernel
theorem dX10_tape_87 : decode cX10_tape 87 = .ok (.iload 4, 2) := by decide +kernel
theorem dX10_tape_89 : decode cX10_tape 89 = .ok (.iadd, 1) := by decide +kernel
theorem dX10_tape_90 : decode cX10_tape 90 = .ok (.lconst 0, 1) := by decide +kernel
theorem dX10_tape_91 : decode cX10_tape 91 = .ok (.lastore, 1) := by decide +kernel
theorem dX10_tape_92 : decode cX10_tape 92 = .ok (.iinc 4 1, 3) := by decide +kernel
theorem dX10_tape_95 : decode cX10_tape 95 = .ok (.goto (-23), 3) := by decide +kernel
theorem dX10_tape_98 : decode cX10_tape 98 = .ok (.iconst 1, 1) := by decide +kernel
theorem dX10_tape_99 : decode cX10_tape 99 = .ok (.ireturn, 1) := by decide +kernel
theorem dX10_item_0 : decode cX10_item 0 = .ok (.iload_n 1, 1) := by decide +kernel
theorem dX10_item_1 : decode cX10_item 1 = .ok (.invokestatic 299, 3) := by decide +kernel
theorem dX10_item_4 : decode cX10_item 4 = .ok (.ifCond .ne 5, 3) := by decide +kernel
theorem dX10_item_7 : decode cX10_item 7 = .ok (.iconst (-1), 1) := by decide +kernel
theorem dX10_item_8 : decode cX10_item 8 = .ok (.ireturn, 1) := by decide +kernel
theorem dX10_item_9 : decode cX10_item 9 = .ok (.aload_n 0, 1) := by decide +kernel
theorem dX10_item_10 : decode cX10_item 10 = .ok (.getfield 81, 3) := by decide +kernel
theorem dX10_item_13 : decode cX10_item 13 = .ok (.iload_n 1, 1) := by decide +kernel
theorem dX10_item_14 : decode cX10_item 14 = .ok (.iaload, 1) := by decide +kernel
theorem dX10_item_15 : decode cX10_item 15 = .ok (.ifCond .ge 6, 3) := by decide +kernel
theorem dX10_item_18 : decode cX10_item 18 = .ok (.bipush (-11), 2) := by decide +kernel
theorem dX10_item_20 : decode cX10_item 20 = .ok (.ireturn, 1) := by decide +kernel
theorem dX10_item_21 : decode cX10_item 21 = .ok (.iload_n 2, 1) := by decide +kernel
theorem dX10_item_22 : decode cX10_item 22 = .ok (.i2l, 1) := by decide +kernel
theorem dX10_item_23 : decode cX10_item 23 = .ok (.lconst 0, 1) := by decide +kernel
theorem dX10_item_24 : decode cX10_item 24 = .ok (.aload_n 0, 1) := by decide +kernel
theorem dX10_item_25 : decode cX10_item 25 = .ok (.getfield 84, 3) := by decide +kernel
theorem dX10_item_28 : decode cX10_item 28 = .ok (.iload_n 1, 1) := by decide +kernel
theorem dX10_item_29 : decode cX10_item 29 = .ok (.iaload, 1) := by decide +kernel
theorem dX10_item_30 : decode cX10_item 30 = .ok (.iconst 1, 1) := by decide +kernel
theorem dX10_item_31 : decode cX10_item 31 = .ok (.isub, 1) := by decide +kernel
theorem dX10_item_32 : decode cX10_item 32 = .ok (.i2l, 1) := by decide +kernel
theorem dX10_item_33 : decode cX10_item 33 = .ok (.invokestatic 96, 3) := by decide +kernel
theorem dX10_item_36 : decode cX10_item 36 = .ok (.ifCond .ne 6, 3) := by decide +kernel
theorem dX10_item_39 : decode cX10_item 39 = .ok (.bipush (-13), 2) := by decide +kernel
theorem dX10_item_41 : decode cX10_item 41 = .ok (.ireturn, 1) := by decide +kernel
theorem dX10_item_42 : decode cX10_item 42 = .ok (.aload_n 0, 1) := by decide +kernel
theorem dX10_item_43 : decode cX10_item 43 = .ok (.getfield 87, 3) := by decide +kernel
theorem dX10_item_46 : decode cX10_item 46 = .ok (.bipush 60, 2) := by decide +kernel
theorem dX10_item_48 : decode cX10_item 48 = .ok (.iload_n 1, 1) := by decide +kernel
theorem dX10_item_49 : decode cX10_item 49 = .ok (.imul, 1) := by decide +kernel
theorem dX10_item_50 : decode cX10_item 50 = .ok (.iload_n 2, 1) := by decide +kernel
theorem dX10_item_51 : decode cX10_item 51 = .ok (.iadd, 1) := by decide +kernel
theorem dX10_item_52 : decode cX10_item 52 = .ok (.aload_n 0, 1) := by decide +kernel
theorem dX10_item_53 : decode cX10_item 53 = .ok (.getfield 81, 3) := by decide +kernel
theorem dX10_item_56 : decode cX10_item 56 = .ok (.iload_n 1, 1) := by decide +kernel
theorem dX10_item_57 : decode cX10_item 57 = .ok (.iaload, 1) := by decide +kernel
theorem dX10_item_58 : decode cX10_item 58 = .ok (.lload_n 3, 1) := by decide +kernel
theorem dX10_item_59 : decode cX10_item 59 = .ok (.invokestatic 314, 3) := by decide +kernel
theorem dX10_item_62 : decode cX10_item 62 = .ok (.lastore, 1) := by decide +kernel
theorem dX10_item_63 : decode cX10_item 63 = .ok (.iconst 1, 1) := by decide +kernel
theorem dX10_item_64 : decode cX10_item 64 = .ok (.ireturn, 1) := by decide +kernel
theorem dX10_peek_0 : decode cX10_peek 0 = .ok (.iload_n 1, 1) := by decide +kernel
theorem dX10_peek_1 : decode cX10_peek 1 = .ok (.invokestatic 299, 3) := by decide +kernel
theorem dX10_peek_4 : decode cX10_peek 4 = .ok (.ifCond .eq 35, 3) := by decide +kernel
theorem dX10_peek_7 : decode cX10_peek 7 = .ok (.iload_n 2, 1) := by decide +kernel
theorem dX10_peek_8 : decode cX10_peek 8 = .ok (.i2l, 1) := by decide +kernel
theorem dX10_peek_9 : decode cX10_peek 9 = .ok (.lconst 0, 1) := by decide +kernel
theorem dX10_peek_10 : decode cX10_peek 10 = .ok (.aload_n 0, 1) := by decide +kernel
theorem dX10_peek_11 : decode cX10_peek 11 = .ok (.getfield 84, 3) := by decide +kernel
theorem dX10_peek_14 : decode cX10_peek 14 = .ok (.iload_n 1, 1) := by decide +kernel
theorem dX10_peek_15 : decode cX10_peek 15 = .ok (.iaload, 1) := by decide +kernel
theorem dX10_peek_16 : decode cX10_peek 16 = .ok (.iconst 1, 1) := by decide +kernel
theorem dX10_peek_17 : decode cX10_peek 17 = .ok (.isub, 1) := by decide +kernel
theorem dX10_peek_18 : decode cX10_peek 18 = .ok (.i2l, 1) := by decide +kernel
theorem dX10_peek_19 : decode cX10_peek 19 = .ok (.invokestatic 96, 3) := by decide +kernel
theorem dX10_peek_22 : decode cX10_peek 22 = .ok (.ifCond .eq 17, 3) := by decide +kernel
theorem dX10_peek_25 : decode cX10_peek 25 = .ok (.aload_n 0, 1) := by decide +kernel
theorem dX10_peek_26 : decode cX10_peek 26 = .ok (.getfield 87, 3) := by decide +kernel
theorem dX10_peek_29 : decode cX10_peek 29 = .ok (.bipush 60, 2) := by decide +kernel
theorem dX10_peek_31 : decode cX10_peek 31 = .ok (.iload_n 1, 1) := by decide +kernel
theorem dX10_peek_32 : decode cX10_peek 32 = .ok (.imul, 1) := by decide +kernel
theorem dX10_peek_33 : decode cX10_peek 33 = .ok (.iload_n 2, 1) := by decide +kernel
theorem dX10_peek_34 : decode cX10_peek 34 = .ok (.iadd, 1) := by decide +kernel
theorem dX10_peek_35 : decode cX10_peek 35 = .ok (.laload, 1) := by decide +kernel
theorem dX10_peek_36 : decode cX10_peek 36 = .ok (.goto 6, 3) := by decide +kernel
theorem dX10_peek_39 : decode cX10_peek 39 = .ok (.ldc2_w 213, 3) := by decide +kernel
theorem dX10_peek_42 : decode cX10_peek 42 = .ok (.lreturn, 1) := by decide +kernel
theorem dX10_areThere_0 : decode cX10_areThere 0 = .ok (.iload_n 2, 1) := by decide +kernel
theorem dX10_areThere_1 : decode cX10_areThere 1 = .ok (.ifCond .lt 19, 3) := by decide +kernel
theorem dX10_areThere_4 : decode cX10_areThere 4 = .ok (.iload_n 3, 1) := by decide +kernel
theorem dX10_areThere_5 : decode cX10_areThere 5 = .ok (.aload_n 0, 1) := by decide +kernel
theorem dX10_areThere_6 : decode cX10_areThere 6 = .ok (.getfield 84, 3) := by decide +kernel
theorem dX10_areThere_9 : decode cX10_areThere 9 = .ok (.iload_n 1, 1) := by decide +kernel
theorem dX10_areThere_10 : decode cX10_areThere 10 = .ok (.iaload, 1) := by decide +kernel
theorem dX10_areThere_11 : decode cX10_areThere 11 = .ok (.iload_n 2, 1) := by decide +kernel
theorem dX10_areThere_12 : decode cX10_areThere 12 = .ok (.isub, 1) := by decide +kernel
theorem dX10_areThere_13 : decode cX10_areThere 13 = .ok (.if_icmp .gt 7, 3) := by decide +kernel
theorem dX10_areThere_16 : decode cX10_areThere 16 = .ok (.iconst 1, 1) := by decide +kernel
theorem dX10_areThere_17 : decode cX10_areThere 17 = .ok (.goto 4, 3) := by decide +kernel
theorem dX10_areThere_20 : decode cX10_areThere 20 = .ok (.iconst 0, 1) := by decide +kernel
theorem dX10_areThere_21 : decode cX10_areThere 21 = .ok (.ireturn, 1) := by decide +kernel
theorem dX10_shift_0 : decode cX10_shift 0 = .ok (.iload_n 1, 1) := by decide +kernel
theorem dX10_shift_1 : decode cX10_shift 1 = .ok (.invokestatic 299, 3) := by decide +kernel
theorem dX10_shift_4 : decode cX10_shift 4 = .ok (.ifCond .eq 10, 3) := by decide +kernel
theorem dX10_shift_7 : decode cX10_shift 7 = .ok (.iload_n 3, 1) := by decide +kernel
theorem dX10_shift_8 : decode cX10_shift 8 = .ok (.invokestatic 299, 3) := by decide +kernel
theorem dX10_shift_11 : decode cX10_shift 11 = .ok (.ifCond .ne 5, 3) := by decide +kernel
theorem dX10_shift_14 : decode cX10_shift 14 = .ok (.iconst (-1), 1) := by decide +kernel
theorem dX10_shift_15 : decode cX10_shift 15 = .ok (.ireturn, 1) := by decide +kernel
theorem dX10_shift_16 : decode cX10_shift 16 = .ok (.aload_n 0, 1) := by decide +kernel
theorem dX10_shift_17 : decode cX10_shift 17 = .ok (.getfield 81, 3) := by decide +kernel
theorem dX10_shift_20 : decode cX10_shift 20 = .ok (.iload_n 1, 1) := by decide +kernel
theorem dX10_shift_21 : decode cX10_shift 21 = .ok (.iaload, 1) := by decide +kernel
theorem dX10_shift_22 : decode cX10_shift 22 = .ok (.ifCond .lt 12, 3) := by decide +kernel
theorem dX10_shift_25 : decode cX10_shift 25 = .ok (.aload_n 0, 1) := by decide +kernel
theorem dX10_shift_26 : decode cX10_shift 26 = .ok (.getfield 81, 3) := by decide +kernel
theorem dX10_shift_29 : decode cX10_shift 29 = .ok (.iload_n 3, 1) := by decide +kernel
theorem dX10_shift_30 : decode cX10_shift 30 = .ok (.iaload, 1) := by decide +kernel
theorem dX10_shift_31 : decode cX10_shift 31 = .ok (.ifCond .ge 6, 3) := by decide +kernel
theorem dX10_shift_34 : decode cX10_shift 34 = .ok (.bipush (-11), 2) := by decide +kernel
theorem dX10_shift_36 : decode cX10_shift 36 = .ok (.ireturn, 1) := by decide +kernel
theorem dX10_shift_37 : decode cX10_shift 37 = .ok (.aload_n 0, 1) := by decide +kernel
theorem dX10_shift_38 : decode cX10_shift 38 = .ok (.getfield 81, 3) := by decide +kernel
theorem dX10_shift_41 : decode cX10_shift 41 = .ok (.iload_n 1, 1) := by decide +kernel
theorem dX10_shift_42 : decode cX10_shift 42 = .ok (.iaload, 1) := by decide +kernel
theorem dX10_shift_43 : decode cX10_shift 43 = .ok (.aload_n 0, 1) := by decide +kernel
theorem dX10_shift_44 : decode cX10_shift 44 = .ok (.getfield 81, 3) := by decide +kernel
theorem dX10_shift_47 : decode cX10_shift 47 = .ok (.iload_n 3, 1) := by decide +kernel
theorem dX10_shift_48 : decode cX10_shift 48 = .ok (.iaload, 1) := by decide +kernel
theorem dX10_shift_49 : decode cX10_shift 49 = .ok (.if_icmp .eq 6, 3) := by decide +kernel
theorem dX10_shift_52 : decode cX10_shift 52 = .ok (.bipush (-12), 2) := by decide +kernel
theorem dX10_shift_54 : decode cX10_shift 54 = .ok (.ireturn, 1) := by decide +kernel
theorem dX10_shift_55 : decode cX10_shift 55 = .ok (.iload 5, 2) := by decide +kernel
theorem dX10_shift_57 : decode cX10_shift 57 = .ok (.ifCond .lt 26, 3) := by decide +kernel
theorem dX10_shift_60 : decode cX10_shift 60 = .ok (.aload_n 0, 1) := by decide +kernel
theorem dX10_shift_61 : decode cX10_shift 61 = .ok (.iload_n 1, 1) := by decide +kernel
theorem dX10_shift_62 : decode cX10_shift 62 = .ok (.iload_n 2, 1) := by decide +kernel
theorem dX10_shift_63 : decode cX10_shift 63 = .ok (.iload 5, 2) := by decide +kernel
theorem dX10_shift_65 : decode cX10_shift 65 = .ok (.invokevirtual 318, 3) := by decide +kernel
theorem dX10_shift_68 : decode cX10_shift 68 = .ok (.ifCond .eq 15, 3) := by decide +kernel
theorem dX10_shift_71 : decode cX10_shift 71 = .ok (.aload_n 0, 1) := by decide +kernel
theorem dX10_shift_72 : decode cX10_shift 72 = .ok (.iload_n 3, 1) := by decide +kernel
theorem dX10_shift_73 : decode cX10_shift 73 = .ok (.iload 4, 2) := by decide +kernel
theorem dX10_shift_75 : decode cX10_shift 75 = .ok (.iload 5, 2) := by decide +kernel
theorem dX10_shift_77 : decode cX10_shift 77 = .ok (.invokevirtual 318, 3) := by decide +kernel
theorem dX10_shift_80 : decode cX10_shift 80 = .ok (.ifCond .ne 6, 3) := by decide +kernel
theorem dX10_shift_83 : decode cX10_shift 83 = .ok (.bipush (-13), 2) := by decide +kernel
theorem dX10_shift_85 : decode cX10_shift 85 = .ok (.ireturn, 1) := by decide +kernel
theorem dX10_shift_86 : decode cX10_shift 86 = .ok (.iconst 0, 1) := by decide +kernel
theorem dX10_shift_87 : decode cX10_shift 87 = .ok (.istore 6, 2) := by decide +kernel
theorem dX10_shift_89 : decode cX10_shift 89 = .ok (.iload 6, 2) := by decide +kernel
theorem dX10_shift_91 : decode cX10_shift 91 = .ok (.iload 5, 2) := by decide +kernel
theorem dX10_shift_93 : decode cX10_shift 93 = .ok (.if_icmp .ge 58, 3) := by decide +kernel
theorem dX10_shift_96 : decode cX10_shift 96 = .ok (.iload_n 2, 1) := by decide +kernel
theorem dX10_shift_97 : decode cX10_shift 97 = .ok (.iload 4, 2) := by decide +kernel
theorem dX10_shift_99 : decode cX10_shift 99 = .ok (.if_icmp .ge 13, 3) := by decide +kernel
theorem dX10_shift_102 : decode cX10_shift 102 = .ok (.iload 5, 2) := by decide +kernel
theorem dX10_shift_104 : decode cX10_shift 104 = .ok (.iconst 1, 1) := by decide +kernel
theorem dX10_shift_105 : decode cX10_shift 105 = .ok (.isub, 1) := by decide +kernel
theorem dX10_shift_106 : decode cX10_shift 106 = .ok (.iload 6, 2) := by decide +kernel
theorem dX10_shift_108 : decode cX10_shift 108 = .ok (.isub, 1) := by decide +kernel
theorem dX10_shift_109 : decode cX10_shift 109 = .ok (.goto 5, 3) := by decide +kernel
theorem dX10_shift_112 : decode cX10_shift 112 = .ok (.iload 6, 2) := by decide +kernel
theorem dX10_shift_114 : decode cX10_shift 114 = .ok (.istore 7, 2) := by decide +kernel
theorem dX10_shift_116 : decode cX10_shift 116 = .ok (.aload_n 0, 1) := by decide +kernel
theorem dX10_shift_117 : decode cX10_shift 117 = .ok (.getfield 87, 3) := by decide +kernel
theorem dX10_shift_120 : decode cX10_shift 120 = .ok (.bipush 60, 2) := by decide +kernel
theorem dX10_shift_122 : decode cX10_shift 122 = .ok (.iload_n 3, 1) := by decide +kernel
theorem dX10_shift_123 : decode cX10_shift 123 = .ok (.imul, 1) := by decide +kernel
theorem dX10_shift_124 : decode cX10_shift 124 = .ok (.iload 4, 2) := by decide +kernel
theorem dX10_shift_126 : decode cX10_shift 126 = .ok (.iadd, 1) := by decide +kernel
theorem dX10_shift_127 : decode cX10_shift 127 = .ok (.iload 7, 2) := by decide +kernel
theorem dX10_shift_129 : decode cX10_shift 129 = .ok (.iadd, 1) := by decide +kernel
theorem dX10_shift_130 : decode cX10_shift 130 = .ok (.aload_n 0, 1) := by decide +kernel
theorem dX10_shift_131 : decode cX10_shift 131 = .ok (.getfield 87, 3) := by decide +kernel
theorem dX10_shift_134 : decode cX10_shift 134 = .ok (.bipush 60, 2) := by decide +kernel
theorem dX10_shift_136 : decode cX10_shift 136 = .ok (.iload_n 1, 1) := by decide +kernel
theorem dX10_shift_137 : decode cX10_shift 137 = .ok (.imul, 1) := by decide +kernel
theorem dX10_shift_138 : decode cX10_shift 138 = .ok (.iload_n 2, 1) := by decide +kernel
theorem dX10_shift_139 : decode cX10_shift 139 = .ok (.iadd, 1) := by decide +kernel
theorem dX10_shift_140 : decode cX10_shift 140 = .ok (.iload 7, 2) := by decide +kernel
theorem dX10_shift_142 : decode cX10_shift 142 = .ok (.iadd, 1) := by decide +kernel
theorem dX10_shift_143 : decode cX10_shift 143 = .ok (.laload, 1) := by decide +kernel
theorem dX10_shift_144 : decode cX10_shift 144 = .ok (.lastore, 1) := by decide +kernel
theorem dX10_shift_145 : decode cX10_shift 145 = .ok (.iinc 6 1, 3) := by decide +kernel
theorem dX10_shift_148 : decode cX10_shift 148 = .ok (.goto (-59), 3) := by decide +kernel
theorem dX10_shift_151 : decode cX10_shift 151 = .ok (.iload 5, 2) := by decide +kernel
theorem dX10_shift_153 : decode cX10_shift 153 = .ok (.ireturn, 1) := by decide +kernel
theorem dJ6_bitCount_0f7a4_0 : decode cJ6_bitCount_0f7a4 0 = .ok (.iload_n 0, 1) := by decide +kernel
theorem dJ6_bitCount_0f7a4_1 : decode cJ6_bitCount_0f7a4 1 = .ok (.iload_n 0, 1) := by decide +kernel
theorem dJ6_bitCount_0f7a4_2 : decode cJ6_bitCount_0f7a4 2 = .ok (.iconst 1, 1) := by decide +kernel
theorem dJ6_bitCount_0f7a4_3 : decode cJ6_bitCount_0f7a4 3 = .ok (.iushr, 1) := by decide +kernel
theorem dJ6_bitCount_0f7a4_4 : decode cJ6_bitCount_0f7a4 4 = .ok (.ldc_w 265, 3) := by decide +kernel
theorem dJ6_bitCount_0f7a4_7 : decode cJ6_bitCount_0f7a4 7 = .ok (.iand, 1) := by decide +kernel
theorem dJ6_bitCount_0f7a4_8 : decode cJ6_bitCount_0f7a4 8 = .ok (.isub, 1) := by decide +kernel
theorem dJ6_bitCount_0f7a4_9 : decode cJ6_bitCount_0f7a4 9 = .ok (.istore_n 0, 1) := by decide +kernel
theorem dJ6_bitCount_0f7a4_10 : decode cJ6_bitCount_0f7a4 10 = .ok (.iload_n 0, 1) := by decide +kernel
theorem dJ6_bitCount_0f7a4_11 : decode cJ6_bitCount_0f7a4 11 = .ok (.ldc_w 266, 3) := by decide +kernel
theorem dJ6_bitCount_0f7a4_14 : decode cJ6_bitCount_0f7a4 14 = .ok (.iand, 1) := by decide +kernel
theorem dJ6_bitCount_0f7a4_15 : decode cJ6_bitCount_0f7a4 15 = .ok (.iload_n 0, 1) := by decide +kernel
theorem dJ6_bitCount_0f7a4_16 : decode cJ6_bitCount_0f7a4 16 = .ok (.iconst 2, 1) := by decide +kernel
theorem dJ6_bitCount_0f7a4_17 : decode cJ6_bitCount_0f7a4 17 = .ok (.iushr, 1) := by decide +kernel
theorem dJ6_bitCount_0f7a4_18 : decode cJ6_bitCount_0f7a4 18 = .ok (.ldc_w 266, 3) := by decide +kernel
theorem dJ6_bitCount_0f7a4_21 : decode cJ6_bitCount_0f7a4 21 = .ok (.iand, 1) := by decide +kernel
theorem dJ6_bitCount_0f7a4_22 : decode cJ6_bitCount_0f7a4 22 = .ok (.iadd, 1) := by decide +kernel
theorem dJ6_bitCount_0f7a4_23 : decode cJ6_bitCount_0f7a4 23 = .ok (.istore_n 0, 1) := by decide +kernel
theorem dJ6_bitCount_0f7a4_24 : decode cJ6_bitCount_0f7a4 24 = .ok (.iload_n 0, 1) := by decide +kernel
theorem dJ6_bitCount_0f7a4_25 : decode cJ6_bitCount_0f7a4 25 = .ok (.iload_n 0, 1) := by decide +kernel
theorem dJ6_bitCount_0f7a4_26 : decode cJ6_bitCount_0f7a4 26 = .ok (.iconst 4, 1) := by decide +kernel
theorem dJ6_bitCount_0f7a4_27 : decode cJ6_bitCount_0f7a4 27 = .ok (.iushr, 1) := by decide +kernel
theorem dJ6_bitCount_0f7a4_28 : decode cJ6_bitCount_0f7a4 28 = .ok (.iadd, 1) := by decide +kernel
theorem dJ6_bitCount_0f7a4_29 : decode cJ6_bitCount_0f7a4 29 = .ok (.ldc_w 267, 3) := by decide +kernel
theorem dJ6_bitCount_0f7a4_32 : decode cJ6_bitCount_0f7a4 32 = .ok (.iand, 1) := by decide +kernel
theorem dJ6_bitCount_0f7a4_33 : decode cJ6_bitCount_0f7a4 33 = .ok (.istore_n 0, 1) := by decide +kernel
theorem dJ6_bitCount_0f7a4_34 : decode cJ6_bitCount_0f7a4 34 = .ok (.iload_n 0, 1) := by decide +kernel
theorem dJ6_bitCount_0f7a4_35 : decode cJ6_bitCount_0f7a4 35 = .ok (.iload_n 0, 1) := by decide +kernel
theorem dJ6_bitCount_0f7a4_36 : decode cJ6_bitCount_0f7a4 36 = .ok (.bipush 8, 2) := by decide +kernel
theorem dJ6_bitCount_0f7a4_38 : decode cJ6_bitCount_0f7a4 38 = .ok (.iushr, 1) := by decide +kernel
theorem dJ6_bitCount_0f7a4_39 : decode cJ6_bitCount_0f7a4 39 = .ok (.iadd, 1) := by decide +kernel
theorem dJ6_bitCount_0f7a4_40 : decode cJ6_bitCount_0f7a4 40 = .ok (.istore_n 0, 1) := by decide +kernel
theorem dJ6_bitCount_0f7a4_41 : decode cJ6_bitCount_0f7a4 41 = .ok (.iload_n 0, 1) := by decide +kernel
theorem dJ6_bitCount_0f7a4_42 : decode cJ6_bitCount_0f7a4 42 = .ok (.iload_n 0, 1) := by decide +kernel
theorem dJ6_bitCount_0f7a4_43 : decode cJ6_bitCount_0f7a4 43 = .ok (.bipush 16, 2) := by decide +kernel
theorem dJ6_bitCount_0f7a4_45 : decode cJ6_bitCount_0f7a4 45 = .ok (.iushr, 1) := by decide +kernel
theorem dJ6_bitCount_0f7a4_46 : decode cJ6_bitCount_0f7a4 46 = .ok (.iadd, 1) := by decide +kernel
theorem dJ6_bitCount_0f7a4_47 : decode cJ6_bitCount_0f7a4 47 = .ok (.istore_n 0, 1) := by decide +kernel
theorem dJ6_bitCount_0f7a4_48 : decode cJ6_bitCount_0f7a4 48 = .ok (.iload_n 0, 1) := by decide +kernel
theorem dJ6_bitCount_0f7a4_49 : decode cJ6_bitCount_0f7a4 49 = .ok (.bipush 63, 2) := by decide +kernel
theorem dJ6_bitCount_0f7a4_51 : decode cJ6_bitCount_0f7a4 51 = .ok (.iand, 1) := by decide +kernel
theorem dJ6_bitCount_0f7a4_52 : decode cJ6_bitCount_0f7a4 52 = .ok (.ireturn, 1) := by decide +kernel
theorem dJ9_floorMod_7cf53_0 : decode cJ9_floorMod_7cf53 0 = .ok (.iload_n 0, 1) := by decide +kernel
theorem dJ9_floorMod_7cf53_1 : decode cJ9_floorMod_7cf53 1 = .ok (.iload_n 1, 1) := by decide +kernel
theorem dJ9_floorMod_7cf53_2 : decode cJ9_floorMod_7cf53 2 = .ok (.irem, 1) := by decide +kernel
theorem dJ9_floorMod_7cf53_3 : decode cJ9_floorMod_7cf53 3 = .ok (.istore_n 2, 1) := by decide +kernel
theorem dJ9_floorMod_7cf53_4 : decode cJ9_floorMod_7cf53 4 = .ok (.iload_n 0, 1) := by decide +kernel
theorem dJ9_floorMod_7cf53_5 : decode cJ9_floorMod_7cf53 5 = .ok (.iload_n 1, 1) := by decide +kernel
theorem dJ9_floorMod_7cf53_6 : decode cJ9_floorMod_7cf53 6 = .ok (.ixor, 1) := by decide +kernel
theorem dJ9_floorMod_7cf53_7 : decode cJ9_floorMod_7cf53 7 = .ok (.ifCond .ge 11, 3) := by decide +kernel
theorem dJ9_floorMod_7cf53_10 : decode cJ9_floorMod_7cf53 10 = .ok (.iload_n 2, 1) := by decide +kernel
theorem dJ9_floorMod_7cf53_11 : decode cJ9_floorMod_7cf53 11 = .ok (.ifCond .eq 7, 3) := by decide +kernel
theorem dJ9_floorMod_7cf53_14 : decode cJ9_floorMod_7cf53 14 = .ok (.iload_n 2, 1) := by decide +kernel
theorem dJ9_floorMod_7cf53_15 : decode cJ9_floorMod_7cf53 15 = .ok (.iload_n 1, 1) := by decide +kernel
theorem dJ9_floorMod_7cf53_16 : decode cJ9_floorMod_7cf53 16 = .ok (.iadd, 1) := by decide +kernel
theorem dJ9_floorMod_7cf53_17 : decode cJ9_floorMod_7cf53 17 = .ok (.ireturn, 1) := by decide +kernel
theorem dJ9_floorMod_7cf53_18 : decode cJ9_floorMod_7cf53 18 = .ok (.iload_n 2, 1) := by decide +kernel
theorem dJ9_floorMod_7cf53_19 : decode cJ9_floorMod_7cf53 19 = .ok (.ireturn, 1) := by decide +kernel
theorem dJ9_floorMod_1978a_0 : decode cJ9_floorMod_1978a 0 = .ok (.lload_n 0, 1) := by decide +kernel
theorem dJ9_floorMod_1978a_1 : decode cJ9_floorMod_1978a 1 = .ok (.iload_n 2, 1) := by decide +kernel
theorem dJ9_floorMod_1978a_2 : decode cJ9_floorMod_1978a 2 = .ok (.i2l, 1) := by decide +kernel
theorem dJ9_floorMod_1978a_3 : decode cJ9_floorMod_1978a 3 = .ok (.invokestatic 146, 3) := by decide +kernel
theorem dJ9_floorMod_1978a_6 : decode cJ9_floorMod_1978a 6 = .ok (.l2i, 1) := by decide +kernel
theorem dJ9_floorMod_1978a_7 : decode cJ9_floorMod_1978a 7 = .ok (.ireturn, 1) := by decide +kernel
theorem dJ9_floorMod_f86c9_0 : decode cJ9_floorMod_f86c9 0 = .ok (.lload_n 0, 1) := by decide +kernel
theorem dJ9_floorMod_f86c9_1 : decode cJ9_floorMod_f86c9 1 = .ok (.lload_n 2, 1) := by decide +kernel
theorem dJ9_floorMod_f86c9_2 : decode cJ9_floorMod_f86c9 2 = .ok (.lrem, 1) := by decide +kernel
theorem dJ9_floorMod_f86c9_3 : decode cJ9_floorMod_f86c9 3 = .ok (.lstore 4, 2) := by decide +kernel
theorem dJ9_floorMod_f86c9_5 : decode cJ9_floorMod_f86c9 5 = .ok (.lload_n 0, 1) := by decide +kernel
theorem dJ9_floorMod_f86c9_6 : decode cJ9_floorMod_f86c9 6 = .ok (.lload_n 2, 1) := by decide +kernel
theorem dJ9_floorMod_f86c9_7 : decode cJ9_floorMod_f86c9 7 = .ok (.lxor, 1) := by decide +kernel
theorem dJ9_floorMod_f86c9_8 : decode cJ9_floorMod_f86c9 8 = .ok (.lconst 0, 1) := by decide +kernel
theorem dJ9_floorMod_f86c9_9 : decode cJ9_floorMod_f86c9 9 = .ok (.lcmp, 1) := by decide +kernel
theorem dJ9_floorMod_f86c9_10 : decode cJ9_floorMod_f86c9 10 = .ok (.ifCond .ge 15, 3) := by decide +kernel
theorem dJ9_floorMod_f86c9_13 : decode cJ9_floorMod_f86c9 13 = .ok (.lload 4, 2) := by decide +kernel
theorem dJ9_floorMod_f86c9_15 : decode cJ9_floorMod_f86c9 15 = .ok (.lconst 0, 1) := by decide +kernel
theorem dJ9_floorMod_f86c9_16 : decode cJ9_floorMod_f86c9 16 = .ok (.lcmp, 1) := by decide +kernel
theorem dJ9_floorMod_f86c9_17 : decode cJ9_floorMod_f86c9 17 = .ok (.ifCond .eq 8, 3) := by decide +kernel
theorem dJ9_floorMod_f86c9_20 : decode cJ9_floorMod_f86c9 20 = .ok (.lload 4, 2) := by decide +kernel
theorem dJ9_floorMod_f86c9_22 : decode cJ9_floorMod_f86c9 22 = .ok (.lload_n 2, 1) := by decide +kernel
theorem dJ9_floorMod_f86c9_23 : decode cJ9_floorMod_f86c9 23 = .ok (.ladd, 1) := by decide +kernel
theorem dJ9_floorMod_f86c9_24 : decode cJ9_floorMod_f86c9 24 = .ok (.lreturn, 1) := by decide +kernel
theorem dJ9_floorMod_f86c9_25 : decode cJ9_floorMod_f86c9 25 = .ok (.lload 4, 2) := by decide +kernel
theorem dJ9_floorMod_f86c9_27 : decode cJ9_floorMod_f86c9 27 = .ok (.lreturn, 1) := by decide +kernel
theorem dJ9_abs_067f4_0 : decode cJ9_abs_067f4 0 = .ok (.lload_n 0, 1) := by decide +kernel
theorem dJ9_abs_067f4_1 : decode cJ9_abs_067f4 1 = .ok (.lconst 0, 1) := by decide +kernel
theorem dJ9_abs_067f4_2 : decode cJ9_abs_067f4 2 = .ok (.lcmp, 1) := by decide +kernel
theorem dJ9_abs_067f4_3 : decode cJ9_abs_067f4 3 = .ok (.ifCond .ge 8, 3) := by decide +kernel
theorem dJ9_abs_067f4_6 : decode cJ9_abs_067f4 6 = .ok (.lload_n 0, 1) := by decide +kernel
theorem dJ9_abs_067f4_7 : decode cJ9_abs_067f4 7 = .ok (.lneg, 1) := by decide +kernel
theorem dJ9_abs_067f4_8 : decode cJ9_abs_067f4 8 = .ok (.goto 4, 3) := by decide +kernel
theorem dJ9_abs_067f4_11 : decode cJ9_abs_067f4 11 = .ok (.lload_n 0, 1) := by decide +kernel
theorem dJ9_abs_067f4_12 : decode cJ9_abs_067f4 12 = .ok (.lreturn, 1) := by decide +kernel
theorem dJ9_max_7cf53_0 : decode cJ9_max_7cf53 0 = .ok (.iload_n 0, 1) := by decide +kernel
theorem dJ9_max_7cf53_1 : decode cJ9_max_7cf53 1 = .ok (.iload_n 1, 1) := by decide +kernel
theorem dJ9_max_7cf53_2 : decode cJ9_max_7cf53 2 = .ok (.if_icmp .lt 7, 3) := by decide +kernel
theorem dJ9_max_7cf53_5 : decode cJ9_max_7cf53 5 = .ok (.iload_n 0, 1) := by decide +kernel
theorem dJ9_max_7cf53_6 : decode cJ9_max_7cf53 6 = .ok (.goto 4, 3) := by decide +kernel
theorem dJ9_max_7cf53_9 : decode cJ9_max_7cf53 9 = .ok (.iload_n 1, 1) := by decide +kernel
theorem dJ9_max_7cf53_10 : decode cJ9_max_7cf53 10 = .ok (.ireturn, 1) := by decide +kernel
theorem dJ9_min_7cf53_0 : decode cJ9_min_7cf53 0 = .ok (.iload_n 0, 1) := by decide +kernel
theorem dJ9_min_7cf53_1 : decode cJ9_min_7cf53 1 = .ok (.iload_n 1, 1) := by decide +kernel
theorem dJ9_min_7cf53_2 : decode cJ9_min_7cf53 2 = .ok (.if_icmp .gt 7, 3) := by decide +kernel
theorem dJ9_min_7cf53_5 : decode cJ9_min_7cf53 5 = .ok (.iload_n 0, 1) := by decide +kernel
theorem dJ9_min_7cf53_6 : decode cJ9_min_7cf53 6 = .ok (.goto 4, 3) := by decide +kernel
theorem dJ9_min_7cf53_9 : decode cJ9_min_7cf53 9 = .ok (.iload_n 1, 1) := by decide +kernel
theorem dJ9_min_7cf53_10 : decode cJ9_min_7cf53 10 = .ok (.ireturn, 1) := by decide +kernel
theorem dJ9_min_f86c9_0 : decode cJ9_min_f86c9 0 = .ok (.lload_n 0, 1) := by decide +kernel
theorem dJ9_min_f86c9_1 : decode cJ9_min_f86c9 1 = .ok (.lload_n 2, 1) := by decide +kernel
theorem dJ9_min_f86c9_2 : decode cJ9_min_f86c9 2 = .ok (.lcmp, 1) := by decide +kernel
theorem dJ9_min_f86c9_3 : decode cJ9_min_f86c9 3 = .ok (.ifCond .gt 7, 3) := by decide +kernel
theorem dJ9_min_f86c9_6 : decode cJ9_min_f86c9 6 = .ok (.lload_n 0, 1) := by decide +kernel
theorem dJ9_min_f86c9_7 : decode cJ9_min_f86c9 7 = .ok (.goto 4, 3) := by decide +kernel
theorem dJ9_min_f86c9_10 : decode cJ9_min_f86c9 10 = .ok (.lload_n 2, 1) := by decide +kernel
theorem dJ9_min_f86c9_11 : decode cJ9_min_f86c9 11 = .ok (.lreturn, 1) := by decide +kernel
theorem dJ7_fill_d0a16_0 : decode cJ7_fill_d0a16 0 = .ok (.iconst 0, 1) := by decide +kernel
theorem dJ7_fill_d0a16_1 : decode cJ7_fill_d0a16 1 = .ok (.istore_n 3, 1) := by decide +kernel
theorem dJ7_fill_d0a16_2 : decode cJ7_fill_d0a16 2 = .ok (.aload_n 0, 1) := by decide +kernel
theorem dJ7_fill_d0a16_3 : decode cJ7_fill_d0a16 3 = .ok (.arraylength, 1) := by decide +kernel
theorem dJ7_fill_d0a16_4 : decode cJ7_fill_d0a16 4 = .ok (.istore 4, 2) := by decide +kernel
theorem dJ7_fill_d0a16_6 : decode cJ7_fill_d0a16 6 = .ok (.iload_n 3, 1) := by decide +kernel
theorem dJ7_fill_d0a16_7 : decode cJ7_fill_d0a16 7 = .ok (.iload 4, 2) := by decide +kernel
theorem dJ7_fill_d0a16_9 : decode cJ7_fill_d0a16 9 = .ok (.if_icmp .ge 13, 3) := by decide +kernel
theorem dJ7_fill_d0a16_12 : decode cJ7_fill_d0a16 12 = .ok (.aload_n 0, 1) := by decide +kernel
theorem dJ7_fill_d0a16_13 : decode cJ7_fill_d0a16 13 = .ok (.iload_n 3, 1) := by decide +kernel
theorem dJ7_fill_d0a16_14 : decode cJ7_fill_d0a16 14 = .ok (.lload_n 1, 1) := by decide +kernel
theorem dJ7_fill_d0a16_15 : decode cJ7_fill_d0a16 15 = .ok (.lastore, 1) := by decide +kernel
theorem dJ7_fill_d0a16_16 : decode cJ7_fill_d0a16 16 = .ok (.iinc 3 1, 3) := by decide +kernel
theorem dJ7_fill_d0a16_19 : decode cJ7_fill_d0a16 19 = .ok (.goto (-13), 3) := by decide +kernel
theorem dJ7_fill_d0a16_22 : decode cJ7_fill_d0a16 22 = .ok (.return_, 1) := by decide +kernel
theorem dJ7_fill_53178_0 : decode cJ7_fill_53178 0 = .ok (.iconst 0, 1) := by decide +kernel
theorem dJ7_fill_53178_1 : decode cJ7_fill_53178 1 = .ok (.istore_n 2, 1) := by decide +kernel
theorem dJ7_fill_53178_2 : decode cJ7_fill_53178 2 = .ok (.aload_n 0, 1) := by decide +kernel
theorem dJ7_fill_53178_3 : decode cJ7_fill_53178 3 = .ok (.arraylength, 1) := by decide +kernel
theorem dJ7_fill_53178_4 : decode cJ7_fill_53178 4 = .ok (.istore_n 3, 1) := by decide +kernel
theorem dJ7_fill_53178_5 : decode cJ7_fill_53178 5 = .ok (.iload_n 2, 1) := by decide +kernel
theorem dJ7_fill_53178_6 : decode cJ7_fill_53178 6 = .ok (.iload_n 3, 1) := by decide +kernel
theorem dJ7_fill_53178_7 : decode cJ7_fill_53178 7 = .ok (.if_icmp .ge 13, 3) := by decide +kernel
theorem dJ7_fill_53178_10 : decode cJ7_fill_53178 10 = .ok (.aload_n 0, 1) := by decide +kernel
theorem dJ7_fill_53178_11 : decode cJ7_fill_53178 11 = .ok (.iload_n 2, 1) := by decide +kernel
theorem dJ7_fill_53178_12 : decode cJ7_fill_53178 12 = .ok (.iload_n 1, 1) := by decide +kernel
theorem dJ7_fill_53178_13 : decode cJ7_fill_53178 13 = .ok (.iastore, 1) := by decide +kernel
theorem dJ7_fill_53178_14 : decode cJ7_fill_53178 14 = .ok (.iinc 2 1, 3) := by decide +kernel
theorem dJ7_fill_53178_17 : decode cJ7_fill_53178 17 = .ok (.goto (-12), 3) := by decide +kernel
theorem dJ7_fill_53178_20 : decode cJ7_fill_53178 20 = .ok (.return_, 1) := by decide +kernel
theorem dL_law_0 : decode cL_law 0 = .ok (.new 7, 3) := by decide +kernel
theorem dL_law_3 : decode cL_law 3 = .ok (.dup, 1) := by decide +kernel
theorem dL_law_4 : decode cL_law 4 = .ok (.invokespecial 9, 3) := by decide +kernel
theorem dL_law_7 : decode cL_law 7 = .ok (.astore_n 1, 1) := by decide +kernel
theorem dL_law_8 : decode cL_law 8 = .ok (.new 10, 3) := by decide +kernel
theorem dL_law_11 : decode cL_law 11 = .ok (.dup, 1) := by decide +kernel
theorem dL_law_12 : decode cL_law 12 = .ok (.invokespecial 12, 3) := by decide +kernel
theorem dL_law_15 : decode cL_law 15 = .ok (.astore_n 2, 1) := by decide +kernel
theorem dL_law_16 : decode cL_law 16 = .ok (.iconst 0, 1) := by decide +kernel
theorem dL_law_17 : decode cL_law 17 = .ok (.istore_n 3, 1) := by decide +kernel
theorem dL_law_18 : decode cL_law 18 = .ok (.iload_n 3, 1) := by decide +kernel
theorem dL_law_19 : decode cL_law 19 = .ok (.aload_n 0, 1) := by decide +kernel
theorem dL_law_20 : decode cL_law 20 = .ok (.arraylength, 1) := by decide +kernel
theorem dL_law_21 : decode cL_law 21 = .ok (.bipush 6, 2) := by decide +kernel
theorem dL_law_23 : decode cL_law 23 = .ok (.isub, 1) := by decide +kernel
theorem dL_law_24 : decode cL_law 24 = .ok (.if_icmp .gt 1183, 3) := by decide +kernel
theorem dL_law_27 : decode cL_law 27 = .ok (.aload_n 0, 1) := by decide +kernel
theorem dL_law_28 : decode cL_law 28 = .ok (.iload_n 3, 1) := by decide +kernel
theorem dL_law_29 : decode cL_law 29 = .ok (.iaload, 1) := by decide +kernel
theorem dL_law_30 : decode cL_law 30 = .ok (.bipush 63, 2) := by decide +kernel
theorem dL_law_32 : decode cL_law 32 = .ok (.iand, 1) := by decide +kernel
theorem dL_law_33 : decode cL_law 33 = .ok (.tableswitch 1168 0 33 #[151, 174, 207, 230, 253, 276, 329, 352, 365, 388, 411, 445, 478, 511, 534, 567, 590, 613, 647, 690, 723, 747, 771, 804, 827, 860, 873, 906, 919, 932, 955, 998, 1071, 1105], 151) := by decide +kernel
theorem dL_law_184 : decode cL_law 184 = .ok (.aload_n 1, 1) := by decide +kernel
theorem dL_law_185 : decode cL_law 185 = .ok (.aload_n 0, 1) := by decide +kernel
theorem dL_law_186 : decode cL_law 186 = .ok (.iload_n 3, 1) := by decide +kernel
theorem dL_law_187 : decode cL_law 187 = .ok (.iconst 1, 1) := by decide +kernel
theorem dL_law_188 : decode cL_law 188 = .ok (.iadd, 1) := by decide +kernel
theorem dL_law_189 : decode cL_law 189 = .ok (.iaload, 1) := by decide +kernel
theorem dL_law_190 : decode cL_law 190 = .ok (.invokevirtual 13, 3) := by decide +kernel
theorem dL_law_193 : decode cL_law 193 = .ok (.aload_n 2, 1) := by decide +kernel
theorem dL_law_194 : decode cL_law 194 = .ok (.aload_n 0, 1) := by decide +kernel
theorem dL_law_195 : decode cL_law 195 = .ok (.iload_n 3, 1) := by decide +kernel
theorem dL_law_196 : decode cL_law 196 = .ok (.iconst 1, 1) := by decide +kernel
theorem dL_law_197 : decode cL_law 197 = .ok (.iadd, 1) := by decide +kernel
theorem dL_law_198 : decode cL_law 198 = .ok (.iaload, 1) := by decide +kernel
theorem dL_law_199 : decode cL_law 199 = .ok (.invokevirtual 17, 3) := by decide +kernel
theorem dL_law_202 : decode cL_law 202 = .ok (.if_icmp .eq 999, 3) := by decide +kernel
theorem dL_law_205 : decode cL_law 205 = .ok (.iconst 0, 1) := by decide +kernel
theorem dL_law_206 : decode cL_law 206 = .ok (.ireturn, 1) := by decide +kernel
theorem dL_law_207 : decode cL_law 207 = .ok (.aload_n 1, 1) := by decide +kernel
theorem dL_law_208 : decode cL_law 208 = .ok (.aload_n 0, 1) := by decide +kernel
theorem dL_law_209 : decode cL_law 209 = .ok (.iload_n 3, 1) := by decide +kernel
theorem dL_law_210 : decode cL_law 210 = .ok (.iconst 1, 1) := by decide +kernel
theorem dL_law_211 : decode cL_law 211 = .ok (.iadd, 1) := by decide +kernel
theorem dL_law_212 : decode cL_law 212 = .ok (.iaload, 1) := by decide +kernel
theorem dL_law_213 : decode cL_law 213 = .ok (.aload_n 0, 1) := by decide +kernel
theorem dL_law_214 : decode cL_law 214 = .ok (.iload_n 3, 1) := by decide +kernel
theorem dL_law_215 : decode cL_law 215 = .ok (.iconst 2, 1) := by decide +kernel
theorem dL_law_216 : decode cL_law 216 = .ok (.iadd, 1) := by decide +kernel
theorem dL_law_217 : decode cL_law 217 = .ok (.iaload, 1) := by decide +kernel
theorem dL_law_218 : decode cL_law 218 = .ok (.invokevirtual 18, 3) := by decide +kernel
theorem dL_law_221 : decode cL_law 221 = .ok (.aload_n 2, 1) := by decide +kernel
theorem dL_law_222 : decode cL_law 222 = .ok (.aload_n 0, 1) := by decide +kernel
theorem dL_law_223 : decode cL_law 223 = .ok (.iload_n 3, 1) := by decide +kernel
theorem dL_law_224 : decode cL_law 224 = .ok (.iconst 1, 1) := by decide +kernel
theorem dL_law_225 : decode cL_law 225 = .ok (.iadd, 1) := by decide +kernel
theorem dL_law_226 : decode cL_law 226 = .ok (.iaload, 1) := by decide +kernel
theorem dL_law_227 : decode cL_law 227 = .ok (.aload_n 0, 1) := by decide +kernel
theorem dL_law_228 : decode cL_law 228 = .ok (.iload_n 3, 1) := by decide +kernel
theorem dL_law_229 : decode cL_law 229 = .ok (.iconst 2, 1) := by decide +kernel
theorem dL_law_230 : decode cL_law 230 = .ok (.iadd, 1) := by decide +kernel
theorem dL_law_231 : decode cL_law 231 = .ok (.iaload, 1) := by decide +kernel
theorem dL_law_232 : decode cL_law 232 = .ok (.invokevirtual 22, 3) := by decide +kernel
theorem dL_law_235 : decode cL_law 235 = .ok (.if_icmp .eq 966, 3) := by decide +kernel
theorem dL_law_238 : decode cL_law 238 = .ok (.iconst 0, 1) := by decide +kernel
theorem dL_law_239 : decode cL_law 239 = .ok (.ireturn, 1) := by decide +kernel
theorem dL_law_240 : decode cL_law 240 = .ok (.aload_n 1, 1) := by decide +kernel
theorem dL_law_241 : decode cL_law 241 = .ok (.aload_n 0, 1) := by decide +kernel
theorem dL_law_242 : decode cL_law 242 = .ok (.iload_n 3, 1) := by decide +kernel
theorem dL_law_243 : decode cL_law 243 = .ok (.iconst 1, 1) := by decide +kernel
theorem dL_law_244 : decode cL_law 244 = .ok (.iadd, 1) := by decide +kernel
theorem dL_law_245 : decode cL_law 245 = .ok (.iaload, 1) := by decide +kernel
theorem dL_law_246 : decode cL_law 246 = .ok (.invokevirtual 23, 3) := by decide +kernel
theorem dL_law_249 : decode cL_law 249 = .ok (.aload_n 2, 1) := by decide +kernel
theorem dL_law_250 : decode cL_law 250 = .ok (.aload_n 0, 1) := by decide +kernel
theorem dL_law_251 : decode cL_law 251 = .ok (.iload_n 3, 1) := by decide +kernel
theorem dL_law_252 : decode cL_law 252 = .ok (.iconst 1, 1) := by decide +kernel
theorem dL_law_253 : decode cL_law 253 = .ok (.iadd, 1) := by decide +kernel
theorem dL_law_254 : decode cL_law 254 = .ok (.iaload, 1) := by decide +kernel
theorem dL_law_255 : decode cL_law 255 = .ok (.invokevirtual 26, 3) := by decide +kernel
theorem dL_law_258 : decode cL_law 258 = .ok (.if_icmp .eq 943, 3) := by decide +kernel
theorem dL_law_261 : decode cL_law 261 = .ok (.iconst 0, 1) := by decide +kernel
theorem dL_law_262 : decode cL_law 262 = .ok (.ireturn, 1) := by decide +kernel
theorem dL_law_263 : decode cL_law 263 = .ok (.aload_n 1, 1) := by decide +kernel
theorem dL_law_264 : decode cL_law 264 = .ok (.aload_n 0, 1) := by decide +kernel
theorem dL_law_265 : decode cL_law 265 = .ok (.iload_n 3, 1) := by decide +kernel
theorem dL_law_266 : decode cL_law 266 = .ok (.iconst 1, 1) := by decide +kernel
theorem dL_law_267 : decode cL_law 267 = .ok (.iadd, 1) := by decide +kernel
theorem dL_law_268 : decode cL_law 268 = .ok (.iaload, 1) := by decide +kernel
theorem dL_law_269 : decode cL_law 269 = .ok (.invokevirtual 27, 3) := by decide +kernel
theorem dL_law_272 : decode cL_law 272 = .ok (.aload_n 2, 1) := by decide +kernel
theorem dL_law_273 : decode cL_law 273 = .ok (.aload_n 0, 1) := by decide +kernel
theorem dL_law_274 : decode cL_law 274 = .ok (.iload_n 3, 1) := by decide +kernel
theorem dL_law_275 : decode cL_law 275 = .ok (.iconst 1, 1) := by decide +kernel
theorem dL_law_276 : decode cL_law 276 = .ok (.iadd, 1) := by decide +kernel
theorem dL_law_277 : decode cL_law 277 = .ok (.iaload, 1) := by decide +kernel
theorem dL_law_278 : decode cL_law 278 = .ok (.invokevirtual 30, 3) := by decide +kernel
theorem dL_law_281 : decode cL_law 281 = .ok (.if_icmp .eq 920, 3) := by decide +kernel
theorem dL_law_284 : decode cL_law 284 = .ok (.iconst 0, 1) := by decide +kernel
theorem dL_law_285 : decode cL_law 285 = .ok (.ireturn, 1) := by decide +kernel
theorem dL_law_286 : decode cL_law 286 = .ok (.aload_n 1, 1) := by decide +kernel
theorem dL_law_287 : decode cL_law 287 = .ok (.aload_n 0, 1) := by decide +kernel
theorem dL_law_288 : decode cL_law 288 = .ok (.iload_n 3, 1) := by decide +kernel
theorem dL_law_289 : decode cL_law 289 = .ok (.iconst 1, 1) := by decide +kernel
theorem dL_law_290 : decode cL_law 290 = .ok (.iadd, 1) := by decide +kernel
theorem dL_law_291 : decode cL_law 291 = .ok (.iaload, 1) := by decide +kernel
theorem dL_law_292 : decode cL_law 292 = .ok (.invokevirtual 31, 3) := by decide +kernel
theorem dL_law_295 : decode cL_law 295 = .ok (.aload_n 2, 1) := by decide +kernel
theorem dL_law_296 : decode cL_law 296 = .ok (.aload_n 0, 1) := by decide +kernel
theorem dL_law_297 : decode cL_law 297 = .ok (.iload_n 3, 1) := by decide +kernel
theorem dL_law_298 : decode cL_law 298 = .ok (.iconst 1, 1) := by decide +kernel
theorem dL_law_299 : decode cL_law 299 = .ok (.iadd, 1) := by decide +kernel
theorem dL_law_300 : decode cL_law 300 = .ok (.iaload, 1) := by decide +kernel
theorem dL_law_301 : decode cL_law 301 = .ok (.invokevirtual 34, 3) := by decide +kernel
theorem dL_law_304 : decode cL_law 304 = .ok (.if_icmp .eq 897, 3) := by decide +kernel
theorem dL_law_307 : decode cL_law 307 = .ok (.iconst 0, 1) := by decide +kernel
theorem dL_law_308 : decode cL_law 308 = .ok (.ireturn, 1) := by decide +kernel
theorem dL_law_309 : decode cL_law 309 = .ok (.aload_n 1, 1) := by decide +kernel
theorem dL_law_310 : decode cL_law 310 = .ok (.aload_n 0, 1) := by decide +kernel
theorem dL_law_311 : decode cL_law 311 = .ok (.iload_n 3, 1) := by decide +kernel
theorem dL_law_312 : decode cL_law 312 = .ok (.iconst 1, 1) := by decide +kernel
theorem dL_law_313 : decode cL_law 313 = .ok (.iadd, 1) := by decide +kernel
theorem dL_law_314 : decode cL_law 314 = .ok (.iaload, 1) := by decide +kernel
theorem dL_law_315 : decode cL_law 315 = .ok (.aload_n 0, 1) := by decide +kernel
theorem dL_law_316 : decode cL_law 316 = .ok (.iload_n 3, 1) := by decide +kernel
theorem dL_law_317 : decode cL_law 317 = .ok (.iconst 2, 1) := by decide +kernel
theorem dL_law_318 : decode cL_law 318 = .ok (.iadd, 1) := by decide +kernel
theorem dL_law_319 : decode cL_law 319 = .ok (.iaload, 1) := by decide +kernel
theorem dL_law_320 : decode cL_law 320 = .ok (.aload_n 0, 1) := by decide +kernel
theorem dL_law_321 : decode cL_law 321 = .ok (.iload_n 3, 1) := by decide +kernel
theorem dL_law_322 : decode cL_law 322 = .ok (.iconst 3, 1) := by decide +kernel
theorem dL_law_323 : decode cL_law 323 = .ok (.iadd, 1) := by decide +kernel
theorem dL_law_324 : decode cL_law 324 = .ok (.iaload, 1) := by decide +kernel
theorem dL_law_325 : decode cL_law 325 = .ok (.aload_n 0, 1) := by decide +kernel
theorem dL_law_326 : decode cL_law 326 = .ok (.iload_n 3, 1) := by decide +kernel
theorem dL_law_327 : decode cL_law 327 = .ok (.iconst 4, 1) := by decide +kernel
theorem dL_law_328 : decode cL_law 328 = .ok (.iadd, 1) := by decide +kernel
theorem dL_law_329 : decode cL_law 329 = .ok (.iaload, 1) := by decide +kernel
theorem dL_law_330 : decode cL_law 330 = .ok (.invokevirtual 35, 3) := by decide +kernel
theorem dL_law_333 : decode cL_law 333 = .ok (.aload_n 2, 1) := by decide +kernel
theorem dL_law_334 : decode cL_law 334 = .ok (.aload_n 0, 1) := by decide +kernel
theorem dL_law_335 : decode cL_law 335 = .ok (.iload_n 3, 1) := by decide +kernel
theorem dL_law_336 : decode cL_law 336 = .ok (.iconst 1, 1) := by decide +kernel
theorem dL_law_337 : decode cL_law 337 = .ok (.iadd, 1) := by decide +kernel
theorem dL_law_338 : decode cL_law 338 = .ok (.iaload, 1) := by decide +kernel
theorem dL_law_339 : decode cL_law 339 = .ok (.aload_n 0, 1) := by decide +kernel
theorem dL_law_340 : decode cL_law 340 = .ok (.iload_n 3, 1) := by decide +kernel
theorem dL_law_341 : decode cL_law 341 = .ok (.iconst 2, 1) := by decide +kernel
theorem dL_law_342 : decode cL_law 342 = .ok (.iadd, 1) := by decide +kernel
theorem dL_law_343 : decode cL_law 343 = .ok (.iaload, 1) := by decide +kernel
theorem dL_law_344 : decode cL_law 344 = .ok (.aload_n 0, 1) := by decide +kernel
theorem dL_law_345 : decode cL_law 345 = .ok (.iload_n 3, 1) := by decide +kernel
theorem dL_law_346 : decode cL_law 346 = .ok (.iconst 3, 1) := by decide +kernel
theorem dL_law_347 : decode cL_law 347 = .ok (.iadd, 1) := by decide +kernel
theorem dL_law_348 : decode cL_law 348 = .ok (.iaload, 1) := by decide +kernel
theorem dL_law_349 : decode cL_law 349 = .ok (.aload_n 0, 1) := by decide +kernel
theorem dL_law_350 : decode cL_law 350 = .ok (.iload_n 3, 1) := by decide +kernel
theorem dL_law_351 : decode cL_law 351 = .ok (.iconst 4, 1) := by decide +kernel
theorem dL_law_352 : decode cL_law 352 = .ok (.iadd, 1) := by decide +kernel
theorem dL_law_353 : decode cL_law 353 = .ok (.iaload, 1) := by decide +kernel
theorem dL_law_354 : decode cL_law 354 = .ok (.invokevirtual 39, 3) := by decide +kernel
theorem dL_law_357 : decode cL_law 357 = .ok (.if_icmp .eq 844, 3) := by decide +kernel
theorem dL_law_360 : decode cL_law 360 = .ok (.iconst 0, 1) := by decide +kernel
theorem dL_law_361 : decode cL_law 361 = .ok (.ireturn, 1) := by decide +kernel
theorem dL_law_362 : decode cL_law 362 = .ok (.aload_n 1, 1) := by decide +kernel
theorem dL_law_363 : decode cL_law 363 = .ok (.aload_n 0, 1) := by decide +kernel
theorem dL_law_364 : decode cL_law 364 = .ok (.iload_n 3, 1) := by decide +kernel
theorem dL_law_365 : decode cL_law 365 = .ok (.iconst 1, 1) := by decide +kernel
theorem dL_law_366 : decode cL_law 366 = .ok (.iadd, 1) := by decide +kernel
theorem dL_law_367 : decode cL_law 367 = .ok (.iaload, 1) := by decide +kernel
theorem dL_law_368 : decode cL_law 368 = .ok (.invokevirtual 40, 3) := by decide +kernel
theorem dL_law_371 : decode cL_law 371 = .ok (.aload_n 2, 1) := by decide +kernel
theorem dL_law_372 : decode cL_law 372 = .ok (.aload_n 0, 1) := by decide +kernel
theorem dL_law_373 : decode cL_law 373 = .ok (.iload_n 3, 1) := by decide +kernel
theorem dL_law_374 : decode cL_law 374 = .ok (.iconst 1, 1) := by decide +kernel
theorem dL_law_375 : decode cL_law 375 = .ok (.iadd, 1) := by decide +kernel
theorem dL_law_376 : decode cL_law 376 = .ok (.iaload, 1) := by decide +kernel
theorem dL_law_377 : decode cL_law 377 = .ok (.invokevirtual 43, 3) := by decide +kernel
theorem dL_law_380 : decode cL_law 380 = .ok (.if_icmp .eq 821, 3) := by decide +kernel
theorem dL_law_383 : decode cL_law 383 = .ok (.iconst 0, 1) := by decide +kernel
theorem dL_law_384 : decode cL_law 384 = .ok (.ireturn, 1) := by decide +kernel
theorem dL_law_385 : decode cL_law 385 = .ok (.aload_n 1, 1) := by decide +kernel
theorem dL_law_386 : decode cL_law 386 = .ok (.invokevirtual 44, 3) := by decide +kernel
theorem dL_law_389 : decode cL_law 389 = .ok (.aload_n 2, 1) := by decide +kernel
theorem dL_law_390 : decode cL_law 390 = .ok (.invokevirtual 48, 3) := by decide +kernel
theorem dL_law_393 : decode cL_law 393 = .ok (.if_icmp .eq 808, 3) := by decide +kernel
theorem dL_law_396 : decode cL_law 396 = .ok (.iconst 0, 1) := by decide +kernel
theorem dL_law_397 : decode cL_law 397 = .ok (.ireturn, 1) := by decide +kernel
theorem dL_law_398 : decode cL_law 398 = .ok (.aload_n 1, 1) := by decide +kernel
theorem dL_law_399 : decode cL_law 399 = .ok (.aload_n 0, 1) := by decide +kernel
theorem dL_law_400 : decode cL_law 400 = .ok (.iload_n 3, 1) := by decide +kernel
theorem dL_law_401 : decode cL_law 401 = .ok (.iconst 1, 1) := by decide +kernel
theorem dL_law_402 : decode cL_law 402 = .ok (.iadd, 1) := by decide +kernel
theorem dL_law_403 : decode cL_law 403 = .ok (.iaload, 1) := by decide +kernel
theorem dL_law_404 : decode cL_law 404 = .ok (.invokevirtual 49, 3) := by decide +kernel
theorem dL_law_407 : decode cL_law 407 = .ok (.aload_n 2, 1) := by decide +kernel
theorem dL_law_408 : decode cL_law 408 = .ok (.aload_n 0, 1) := by decide +kernel
theorem dL_law_409 : decode cL_law 409 = .ok (.iload_n 3, 1) := by decide +kernel
theorem dL_law_410 : decode cL_law 410 = .ok (.iconst 1, 1) := by decide +kernel
theorem dL_law_411 : decode cL_law 411 = .ok (.iadd, 1) := by decide +kernel
theorem dL_law_412 : decode cL_law 412 = .ok (.iaload, 1) := by decide +kernel
theorem dL_law_413 : decode cL_law 413 = .ok (.invokevirtual 52, 3) := by decide +kernel
theorem dL_law_416 : decode cL_law 416 = .ok (.if_icmp .eq 785, 3) := by decide +kernel
theorem dL_law_419 : decode cL_law 419 = .ok (.iconst 0, 1) := by decide +kernel
theorem dL_law_420 : decode cL_law 420 = .ok (.ireturn, 1) := by decide +kernel
theorem dL_law_421 : decode cL_law 421 = .ok (.aload_n 1, 1) := by decide +kernel
theorem dL_law_422 : decode cL_law 422 = .ok (.aload_n 0, 1) := by decide +kernel
theorem dL_law_423 : decode cL_law 423 = .ok (.iload_n 3, 1) := by decide +kernel
theorem dL_law_424 : decode cL_law 424 = .ok (.iconst 1, 1) := by decide +kernel
theorem dL_law_425 : decode cL_law 425 = .ok (.iadd, 1) := by decide +kernel
theorem dL_law_426 : decode cL_law 426 = .ok (.iaload, 1) := by decide +kernel
theorem dL_law_427 : decode cL_law 427 = .ok (.invokevirtual 53, 3) := by decide +kernel
theorem dL_law_430 : decode cL_law 430 = .ok (.aload_n 2, 1) := by decide +kernel
theorem dL_law_431 : decode cL_law 431 = .ok (.aload_n 0, 1) := by decide +kernel
theorem dL_law_432 : decode cL_law 432 = .ok (.iload_n 3, 1) := by decide +kernel
theorem dL_law_433 : decode cL_law 433 = .ok (.iconst 1, 1) := by decide +kernel
theorem dL_law_434 : decode cL_law 434 = .ok (.iadd, 1) := by decide +kernel
theorem dL_law_435 : decode cL_law 435 = .ok (.iaload, 1) := by decide +kernel
theorem dL_law_436 : decode cL_law 436 = .ok (.invokevirtual 56, 3) := by decide +kernel
theorem dL_law_439 : decode cL_law 439 = .ok (.if_icmp .eq 762, 3) := by decide +kernel
theorem dL_law_442 : decode cL_law 442 = .ok (.iconst 0, 1) := by decide +kernel
theorem dL_law_443 : decode cL_law 443 = .ok (.ireturn, 1) := by decide +kernel
theorem dL_law_444 : decode cL_law 444 = .ok (.aload_n 1, 1) := by decide +kernel
theorem dL_law_445 : decode cL_law 445 = .ok (.aload_n 0, 1) := by decide +kernel
theorem dL_law_446 : decode cL_law 446 = .ok (.iload_n 3, 1) := by decide +kernel
theorem dL_law_447 : decode cL_law 447 = .ok (.iconst 1, 1) := by decide +kernel
theorem dL_law_448 : decode cL_law 448 = .ok (.iadd, 1) := by decide +kernel
theorem dL_law_449 : decode cL_law 449 = .ok (.iaload, 1) := by decide +kernel
theorem dL_law_450 : decode cL_law 450 = .ok (.aload_n 0, 1) := by decide +kernel
theorem dL_law_451 : decode cL_law 451 = .ok (.iload_n 3, 1) := by decide +kernel
theorem dL_law_452 : decode cL_law 452 = .ok (.iconst 2, 1) := by decide +kernel
theorem dL_law_453 : decode cL_law 453 = .ok (.iadd, 1) := by decide +kernel
theorem dL_law_454 : decode cL_law 454 = .ok (.iaload, 1) := by decide +kernel
theorem dL_law_455 : decode cL_law 455 = .ok (.invokevirtual 57, 3) := by decide +kernel
theorem dL_law_458 : decode cL_law 458 = .ok (.aload_n 2, 1) := by decide +kernel
theorem dL_law_459 : decode cL_law 459 = .ok (.aload_n 0, 1) := by decide +kernel
theorem dL_law_460 : decode cL_law 460 = .ok (.iload_n 3, 1) := by decide +kernel
theorem dL_law_461 : decode cL_law 461 = .ok (.iconst 1, 1) := by decide +kernel
theorem dL_law_462 : decode cL_law 462 = .ok (.iadd, 1) := by decide +kernel
theorem dL_law_463 : decode cL_law 463 = .ok (.iaload, 1) := by decide +kernel
theorem dL_law_464 : decode cL_law 464 = .ok (.aload_n 0, 1) := by decide +kernel
theorem dL_law_465 : decode cL_law 465 = .ok (.iload_n 3, 1) := by decide +kernel
theorem dL_law_466 : decode cL_law 466 = .ok (.iconst 2, 1) := by decide +kernel
theorem dL_law_467 : decode cL_law 467 = .ok (.iadd, 1) := by decide +kernel
theorem dL_law_468 : decode cL_law 468 = .ok (.iaload, 1) := by decide +kernel
theorem dL_law_469 : decode cL_law 469 = .ok (.invokevirtual 61, 3) := by decide +kernel
theorem dL_law_472 : decode cL_law 472 = .ok (.lcmp, 1) := by decide +kernel
theorem dL_law_473 : decode cL_law 473 = .ok (.ifCond .eq 728, 3) := by decide +kernel
theorem dL_law_476 : decode cL_law 476 = .ok (.iconst 0, 1) := by decide +kernel
theorem dL_law_477 : decode cL_law 477 = .ok (.ireturn, 1) := by decide +kernel
theorem dL_law_478 : decode cL_law 478 = .ok (.aload_n 1, 1) := by decide +kernel
theorem dL_law_479 : decode cL_law 479 = .ok (.aload_n 0, 1) := by decide +kernel
theorem dL_law_480 : decode cL_law 480 = .ok (.iload_n 3, 1) := by decide +kernel
theorem dL_law_481 : decode cL_law 481 = .ok (.iconst 1, 1) := by decide +kernel
theorem dL_law_482 : decode cL_law 482 = .ok (.iadd, 1) := by decide +kernel
theorem dL_law_483 : decode cL_law 483 = .ok (.iaload, 1) := by decide +kernel
theorem dL_law_484 : decode cL_law 484 = .ok (.aload_n 0, 1) := by decide +kernel
theorem dL_law_485 : decode cL_law 485 = .ok (.iload_n 3, 1) := by decide +kernel
theorem dL_law_486 : decode cL_law 486 = .ok (.iconst 2, 1) := by decide +kernel
theorem dL_law_487 : decode cL_law 487 = .ok (.iadd, 1) := by decide +kernel
theorem dL_law_488 : decode cL_law 488 = .ok (.iaload, 1) := by decide +kernel
theorem dL_law_489 : decode cL_law 489 = .ok (.invokevirtual 62, 3) := by decide +kernel
theorem dL_law_492 : decode cL_law 492 = .ok (.aload_n 2, 1) := by decide +kernel
theorem dL_law_493 : decode cL_law 493 = .ok (.aload_n 0, 1) := by decide +kernel
theorem dL_law_494 : decode cL_law 494 = .ok (.iload_n 3, 1) := by decide +kernel
theorem dL_law_495 : decode cL_law 495 = .ok (.iconst 1, 1) := by decide +kernel
theorem dL_law_496 : decode cL_law 496 = .ok (.iadd, 1) := by decide +kernel
theorem dL_law_497 : decode cL_law 497 = .ok (.iaload, 1) := by decide +kernel
theorem dL_law_498 : decode cL_law 498 = .ok (.aload_n 0, 1) := by decide +kernel
theorem dL_law_499 : decode cL_law 499 = .ok (.iload_n 3, 1) := by decide +kernel
theorem dL_law_500 : decode cL_law 500 = .ok (.iconst 2, 1) := by decide +kernel
theorem dL_law_501 : decode cL_law 501 = .ok (.iadd, 1) := by decide +kernel
theorem dL_law_502 : decode cL_law 502 = .ok (.iaload, 1) := by decide +kernel
theorem dL_law_503 : decode cL_law 503 = .ok (.invokevirtual 65, 3) := by decide +kernel
theorem dL_law_506 : decode cL_law 506 = .ok (.if_icmp .eq 695, 3) := by decide +kernel
theorem dL_law_509 : decode cL_law 509 = .ok (.iconst 0, 1) := by decide +kernel
theorem dL_law_510 : decode cL_law 510 = .ok (.ireturn, 1) := by decide +kernel
theorem dL_law_511 : decode cL_law 511 = .ok (.aload_n 1, 1) := by decide +kernel
theorem dL_law_512 : decode cL_law 512 = .ok (.aload_n 0, 1) := by decide +kernel
theorem dL_law_513 : decode cL_law 513 = .ok (.iload_n 3, 1) := by decide +kernel
theorem dL_law_514 : decode cL_law 514 = .ok (.iconst 1, 1) := by decide +kernel
theorem dL_law_515 : decode cL_law 515 = .ok (.iadd, 1) := by decide +kernel
theorem dL_law_516 : decode cL_law 516 = .ok (.iaload, 1) := by decide +kernel
theorem dL_law_517 : decode cL_law 517 = .ok (.aload_n 0, 1) := by decide +kernel
theorem dL_law_518 : decode cL_law 518 = .ok (.iload_n 3, 1) := by decide +kernel
theorem dL_law_519 : decode cL_law 519 = .ok (.iconst 2, 1) := by decide +kernel
theorem dL_law_520 : decode cL_law 520 = .ok (.iadd, 1) := by decide +kernel
theorem dL_law_521 : decode cL_law 521 = .ok (.iaload, 1) := by decide +kernel
theorem dL_law_522 : decode cL_law 522 = .ok (.invokevirtual 66, 3) := by decide +kernel
theorem dL_law_525 : decode cL_law 525 = .ok (.aload_n 2, 1) := by decide +kernel
theorem dL_law_526 : decode cL_law 526 = .ok (.aload_n 0, 1) := by decide +kernel
theorem dL_law_527 : decode cL_law 527 = .ok (.iload_n 3, 1) := by decide +kernel
theorem dL_law_528 : decode cL_law 528 = .ok (.iconst 1, 1) := by decide +kernel
theorem dL_law_529 : decode cL_law 529 = .ok (.iadd, 1) := by decide +kernel
theorem dL_law_530 : decode cL_law 530 = .ok (.iaload, 1) := by decide +kernel
theorem dL_law_531 : decode cL_law 531 = .ok (.aload_n 0, 1) := by decide +kernel
theorem dL_law_532 : decode cL_law 532 = .ok (.iload_n 3, 1) := by decide +kernel
theorem dL_law_533 : decode cL_law 533 = .ok (.iconst 2, 1) := by decide +kernel
theorem dL_law_534 : decode cL_law 534 = .ok (.iadd, 1) := by decide +kernel
theorem dL_law_535 : decode cL_law 535 = .ok (.iaload, 1) := by decide +kernel
theorem dL_law_536 : decode cL_law 536 = .ok (.invokevirtual 69, 3) := by decide +kernel
theorem dL_law_539 : decode cL_law 539 = .ok (.if_icmp .eq 662, 3) := by decide +kernel
theorem dL_law_542 : decode cL_law 542 = .ok (.iconst 0, 1) := by decide +kernel
theorem dL_law_543 : decode cL_law 543 = .ok (.ireturn, 1) := by decide +kernel
theorem dL_law_544 : decode cL_law 544 = .ok (.aload_n 1, 1) := by decide +kernel
theorem dL_law_545 : decode cL_law 545 = .ok (.aload_n 0, 1) := by decide +kernel
theorem dL_law_546 : decode cL_law 546 = .ok (.iload_n 3, 1) := by decide +kernel
theorem dL_law_547 : decode cL_law 547 = .ok (.iconst 1, 1) := by decide +kernel
theorem dL_law_548 : decode cL_law 548 = .ok (.iadd, 1) := by decide +kernel
theorem dL_law_549 : decode cL_law 549 = .ok (.iaload, 1) := by decide +kernel
theorem dL_law_550 : decode cL_law 550 = .ok (.invokevirtual 70, 3) := by decide +kernel
theorem dL_law_553 : decode cL_law 553 = .ok (.aload_n 2, 1) := by decide +kernel
theorem dL_law_554 : decode cL_law 554 = .ok (.aload_n 0, 1) := by decide +kernel
theorem dL_law_555 : decode cL_law 555 = .ok (.iload_n 3, 1) := by decide +kernel
theorem dL_law_556 : decode cL_law 556 = .ok (.iconst 1, 1) := by decide +kernel
theorem dL_law_557 : decode cL_law 557 = .ok (.iadd, 1) := by decide +kernel
theorem dL_law_558 : decode cL_law 558 = .ok (.iaload, 1) := by decide +kernel
theorem dL_law_559 : decode cL_law 559 = .ok (.invokevirtual 73, 3) := by decide +kernel
theorem dL_law_562 : decode cL_law 562 = .ok (.if_icmp .eq 639, 3) := by decide +kernel
theorem dL_law_565 : decode cL_law 565 = .ok (.iconst 0, 1) := by decide +kernel
theorem dL_law_566 : decode cL_law 566 = .ok (.ireturn, 1) := by decide +kernel
theorem dL_law_567 : decode cL_law 567 = .ok (.aload_n 1, 1) := by decide +kernel
theorem dL_law_568 : decode cL_law 568 = .ok (.aload_n 0, 1) := by decide +kernel
theorem dL_law_569 : decode cL_law 569 = .ok (.iload_n 3, 1) := by decide +kernel
theorem dL_law_570 : decode cL_law 570 = .ok (.iconst 1, 1) := by decide +kernel
theorem dL_law_571 : decode cL_law 571 = .ok (.iadd, 1) := by decide +kernel
theorem dL_law_572 : decode cL_law 572 = .ok (.iaload, 1) := by decide +kernel
theorem dL_law_573 : decode cL_law 573 = .ok (.aload_n 0, 1) := by decide +kernel
theorem dL_law_574 : decode cL_law 574 = .ok (.iload_n 3, 1) := by decide +kernel
theorem dL_law_575 : decode cL_law 575 = .ok (.iconst 2, 1) := by decide +kernel
theorem dL_law_576 : decode cL_law 576 = .ok (.iadd, 1) := by decide +kernel
theorem dL_law_577 : decode cL_law 577 = .ok (.iaload, 1) := by decide +kernel
theorem dL_law_578 : decode cL_law 578 = .ok (.invokevirtual 74, 3) := by decide +kernel
theorem dL_law_581 : decode cL_law 581 = .ok (.aload_n 2, 1) := by decide +kernel
theorem dL_law_582 : decode cL_law 582 = .ok (.aload_n 0, 1) := by decide +kernel
theorem dL_law_583 : decode cL_law 583 = .ok (.iload_n 3, 1) := by decide +kernel
theorem dL_law_584 : decode cL_law 584 = .ok (.iconst 1, 1) := by decide +kernel
theorem dL_law_585 : decode cL_law 585 = .ok (.iadd, 1) := by decide +kernel
theorem dL_law_586 : decode cL_law 586 = .ok (.iaload, 1) := by decide +kernel
theorem dL_law_587 : decode cL_law 587 = .ok (.aload_n 0, 1) := by decide +kernel
theorem dL_law_588 : decode cL_law 588 = .ok (.iload_n 3, 1) := by decide +kernel
theorem dL_law_589 : decode cL_law 589 = .ok (.iconst 2, 1) := by decide +kernel
theorem dL_law_590 : decode cL_law 590 = .ok (.iadd, 1) := by decide +kernel
theorem dL_law_591 : decode cL_law 591 = .ok (.iaload, 1) := by decide +kernel
theorem dL_law_592 : decode cL_law 592 = .ok (.invokevirtual 77, 3) := by decide +kernel
theorem dL_law_595 : decode cL_law 595 = .ok (.if_icmp .eq 606, 3) := by decide +kernel
theorem dL_law_598 : decode cL_law 598 = .ok (.iconst 0, 1) := by decide +kernel
theorem dL_law_599 : decode cL_law 599 = .ok (.ireturn, 1) := by decide +kernel
theorem dL_law_600 : decode cL_law 600 = .ok (.aload_n 1, 1) := by decide +kernel
theorem dL_law_601 : decode cL_law 601 = .ok (.aload_n 0, 1) := by decide +kernel
theorem dL_law_602 : decode cL_law 602 = .ok (.iload_n 3, 1) := by decide +kernel
theorem dL_law_603 : decode cL_law 603 = .ok (.iconst 1, 1) := by decide +kernel
theorem dL_law_604 : decode cL_law 604 = .ok (.iadd, 1) := by decide +kernel
theorem dL_law_605 : decode cL_law 605 = .ok (.iaload, 1) := by decide +kernel
theorem dL_law_606 : decode cL_law 606 = .ok (.invokevirtual 78, 3) := by decide +kernel
theorem dL_law_609 : decode cL_law 609 = .ok (.aload_n 2, 1) := by decide +kernel
theorem dL_law_610 : decode cL_law 610 = .ok (.aload_n 0, 1) := by decide +kernel
theorem dL_law_611 : decode cL_law 611 = .ok (.iload_n 3, 1) := by decide +kernel
theorem dL_law_612 : decode cL_law 612 = .ok (.iconst 1, 1) := by decide +kernel
theorem dL_law_613 : decode cL_law 613 = .ok (.iadd, 1) := by decide +kernel
theorem dL_law_614 : decode cL_law 614 = .ok (.iaload, 1) := by decide +kernel
theorem dL_law_615 : decode cL_law 615 = .ok (.invokevirtual 81, 3) := by decide +kernel
theorem dL_law_618 : decode cL_law 618 = .ok (.if_icmp .eq 583, 3) := by decide +kernel
theorem dL_law_621 : decode cL_law 621 = .ok (.iconst 0, 1) := by decide +kernel
theorem dL_law_622 : decode cL_law 622 = .ok (.ireturn, 1) := by decide +kernel
theorem dL_law_623 : decode cL_law 623 = .ok (.aload_n 1, 1) := by decide +kernel
theorem dL_law_624 : decode cL_law 624 = .ok (.aload_n 0, 1) := by decide +kernel
theorem dL_law_625 : decode cL_law 625 = .ok (.iload_n 3, 1) := by decide +kernel
theorem dL_law_626 : decode cL_law 626 = .ok (.iconst 1, 1) := by decide +kernel
theorem dL_law_627 : decode cL_law 627 = .ok (.iadd, 1) := by decide +kernel
theorem dL_law_628 : decode cL_law 628 = .ok (.iaload, 1) := by decide +kernel
theorem dL_law_629 : decode cL_law 629 = .ok (.invokevirtual 82, 3) := by decide +kernel
theorem dL_law_632 : decode cL_law 632 = .ok (.aload_n 2, 1) := by decide +kernel
theorem dL_law_633 : decode cL_law 633 = .ok (.aload_n 0, 1) := by decide +kernel
theorem dL_law_634 : decode cL_law 634 = .ok (.iload_n 3, 1) := by decide +kernel
theorem dL_law_635 : decode cL_law 635 = .ok (.iconst 1, 1) := by decide +kernel
theorem dL_law_636 : decode cL_law 636 = .ok (.iadd, 1) := by decide +kernel
theorem dL_law_637 : decode cL_law 637 = .ok (.iaload, 1) := by decide +kernel
theorem dL_law_638 : decode cL_law 638 = .ok (.invokevirtual 85, 3) := by decide +kernel
theorem dL_law_641 : decode cL_law 641 = .ok (.if_icmp .eq 560, 3) := by decide +kernel
theorem dL_law_644 : decode cL_law 644 = .ok (.iconst 0, 1) := by decide +kernel
theorem dL_law_645 : decode cL_law 645 = .ok (.ireturn, 1) := by decide +kernel
theorem dL_law_646 : decode cL_law 646 = .ok (.aload_n 1, 1) := by decide +kernel
theorem dL_law_647 : decode cL_law 647 = .ok (.aload_n 0, 1) := by decide +kernel
theorem dL_law_648 : decode cL_law 648 = .ok (.iload_n 3, 1) := by decide +kernel
theorem dL_law_649 : decode cL_law 649 = .ok (.iconst 1, 1) := by decide +kernel
theorem dL_law_650 : decode cL_law 650 = .ok (.iadd, 1) := by decide +kernel
theorem dL_law_651 : decode cL_law 651 = .ok (.iaload, 1) := by decide +kernel
theorem dL_law_652 : decode cL_law 652 = .ok (.aload_n 0, 1) := by decide +kernel
theorem dL_law_653 : decode cL_law 653 = .ok (.iload_n 3, 1) := by decide +kernel
theorem dL_law_654 : decode cL_law 654 = .ok (.iconst 2, 1) := by decide +kernel
theorem dL_law_655 : decode cL_law 655 = .ok (.iadd, 1) := by decide +kernel
theorem dL_law_656 : decode cL_law 656 = .ok (.iaload, 1) := by decide +kernel
theorem dL_law_657 : decode cL_law 657 = .ok (.invokevirtual 86, 3) := by decide +kernel
theorem dL_law_660 : decode cL_law 660 = .ok (.aload_n 2, 1) := by decide +kernel
theorem dL_law_661 : decode cL_law 661 = .ok (.aload_n 0, 1) := by decide +kernel
theorem dL_law_662 : decode cL_law 662 = .ok (.iload_n 3, 1) := by decide +kernel
theorem dL_law_663 : decode cL_law 663 = .ok (.iconst 1, 1) := by decide +kernel
theorem dL_law_664 : decode cL_law 664 = .ok (.iadd, 1) := by decide +kernel
theorem dL_law_665 : decode cL_law 665 = .ok (.iaload, 1) := by decide +kernel
theorem dL_law_666 : decode cL_law 666 = .ok (.aload_n 0, 1) := by decide +kernel
theorem dL_law_667 : decode cL_law 667 = .ok (.iload_n 3, 1) := by decide +kernel
theorem dL_law_668 : decode cL_law 668 = .ok (.iconst 2, 1) := by decide +kernel
theorem dL_law_669 : decode cL_law 669 = .ok (.iadd, 1) := by decide +kernel
theorem dL_law_670 : decode cL_law 670 = .ok (.iaload, 1) := by decide +kernel
theorem dL_law_671 : decode cL_law 671 = .ok (.invokevirtual 89, 3) := by decide +kernel
theorem dL_law_674 : decode cL_law 674 = .ok (.lcmp, 1) := by decide +kernel
theorem dL_law_675 : decode cL_law 675 = .ok (.ifCond .eq 526, 3) := by decide +kernel
theorem dL_law_678 : decode cL_law 678 = .ok (.iconst 0, 1) := by decide +kernel
theorem dL_law_679 : decode cL_law 679 = .ok (.ireturn, 1) := by decide +kernel
theorem dL_law_680 : decode cL_law 680 = .ok (.aload_n 1, 1) := by decide +kernel
theorem dL_law_681 : decode cL_law 681 = .ok (.aload_n 0, 1) := by decide +kernel
theorem dL_law_682 : decode cL_law 682 = .ok (.iload_n 3, 1) := by decide +kernel
theorem dL_law_683 : decode cL_law 683 = .ok (.iconst 1, 1) := by decide +kernel
theorem dL_law_684 : decode cL_law 684 = .ok (.iadd, 1) := by decide +kernel
theorem dL_law_685 : decode cL_law 685 = .ok (.iaload, 1) := by decide +kernel
theorem dL_law_686 : decode cL_law 686 = .ok (.aload_n 0, 1) := by decide +kernel
theorem dL_law_687 : decode cL_law 687 = .ok (.iload_n 3, 1) := by decide +kernel
theorem dL_law_688 : decode cL_law 688 = .ok (.iconst 2, 1) := by decide +kernel
theorem dL_law_689 : decode cL_law 689 = .ok (.iadd, 1) := by decide +kernel
theorem dL_law_690 : decode cL_law 690 = .ok (.iaload, 1) := by decide +kernel
theorem dL_law_691 : decode cL_law 691 = .ok (.aload_n 0, 1) := by decide +kernel
theorem dL_law_692 : decode cL_law 692 = .ok (.iload_n 3, 1) := by decide +kernel
theorem dL_law_693 : decode cL_law 693 = .ok (.iconst 3, 1) := by decide +kernel
theorem dL_law_694 : decode cL_law 694 = .ok (.iadd, 1) := by decide +kernel
theorem dL_law_695 : decode cL_law 695 = .ok (.iaload, 1) := by decide +kernel
theorem dL_law_696 : decode cL_law 696 = .ok (.invokevirtual 90, 3) := by decide +kernel
theorem dL_law_699 : decode cL_law 699 = .ok (.aload_n 2, 1) := by decide +kernel
theorem dL_law_700 : decode cL_law 700 = .ok (.aload_n 0, 1) := by decide +kernel
theorem dL_law_701 : decode cL_law 701 = .ok (.iload_n 3, 1) := by decide +kernel
theorem dL_law_702 : decode cL_law 702 = .ok (.iconst 1, 1) := by decide +kernel
theorem dL_law_703 : decode cL_law 703 = .ok (.iadd, 1) := by decide +kernel
theorem dL_law_704 : decode cL_law 704 = .ok (.iaload, 1) := by decide +kernel
theorem dL_law_705 : decode cL_law 705 = .ok (.aload_n 0, 1) := by decide +kernel
theorem dL_law_706 : decode cL_law 706 = .ok (.iload_n 3, 1) := by decide +kernel
theorem dL_law_707 : decode cL_law 707 = .ok (.iconst 2, 1) := by decide +kernel
theorem dL_law_708 : decode cL_law 708 = .ok (.iadd, 1) := by decide +kernel
theorem dL_law_709 : decode cL_law 709 = .ok (.iaload, 1) := by decide +kernel
theorem dL_law_710 : decode cL_law 710 = .ok (.aload_n 0, 1) := by decide +kernel
theorem dL_law_711 : decode cL_law 711 = .ok (.iload_n 3, 1) := by decide +kernel
theorem dL_law_712 : decode cL_law 712 = .ok (.iconst 3, 1) := by decide +kernel
theorem dL_law_713 : decode cL_law 713 = .ok (.iadd, 1) := by decide +kernel
theorem dL_law_714 : decode cL_law 714 = .ok (.iaload, 1) := by decide +kernel
theorem dL_law_715 : decode cL_law 715 = .ok (.invokevirtual 94, 3) := by decide +kernel
theorem dL_law_718 : decode cL_law 718 = .ok (.if_icmp .eq 483, 3) := by decide +kernel
theorem dL_law_721 : decode cL_law 721 = .ok (.iconst 0, 1) := by decide +kernel
theorem dL_law_722 : decode cL_law 722 = .ok (.ireturn, 1) := by decide +kernel
theorem dL_law_723 : decode cL_law 723 = .ok (.aload_n 1, 1) := by decide +kernel
theorem dL_law_724 : decode cL_law 724 = .ok (.aload_n 0, 1) := by decide +kernel
theorem dL_law_725 : decode cL_law 725 = .ok (.iload_n 3, 1) := by decide +kernel
theorem dL_law_726 : decode cL_law 726 = .ok (.iconst 1, 1) := by decide +kernel
theorem dL_law_727 : decode cL_law 727 = .ok (.iadd, 1) := by decide +kernel
theorem dL_law_728 : decode cL_law 728 = .ok (.iaload, 1) := by decide +kernel
theorem dL_law_729 : decode cL_law 729 = .ok (.aload_n 0, 1) := by decide +kernel
theorem dL_law_730 : decode cL_law 730 = .ok (.iload_n 3, 1) := by decide +kernel
theorem dL_law_731 : decode cL_law 731 = .ok (.iconst 2, 1) := by decide +kernel
theorem dL_law_732 : decode cL_law 732 = .ok (.iadd, 1) := by decide +kernel
theorem dL_law_733 : decode cL_law 733 = .ok (.iaload, 1) := by decide +kernel
theorem dL_law_734 : decode cL_law 734 = .ok (.invokevirtual 95, 3) := by decide +kernel
theorem dL_law_737 : decode cL_law 737 = .ok (.aload_n 2, 1) := by decide +kernel
theorem dL_law_738 : decode cL_law 738 = .ok (.aload_n 0, 1) := by decide +kernel
theorem dL_law_739 : decode cL_law 739 = .ok (.iload_n 3, 1) := by decide +kernel
theorem dL_law_740 : decode cL_law 740 = .ok (.iconst 1, 1) := by decide +kernel
theorem dL_law_741 : decode cL_law 741 = .ok (.iadd, 1) := by decide +kernel
theorem dL_law_742 : decode cL_law 742 = .ok (.iaload, 1) := by decide +kernel
theorem dL_law_743 : decode cL_law 743 = .ok (.aload_n 0, 1) := by decide +kernel
theorem dL_law_744 : decode cL_law 744 = .ok (.iload_n 3, 1) := by decide +kernel
theorem dL_law_745 : decode cL_law 745 = .ok (.iconst 2, 1) := by decide +kernel
theorem dL_law_746 : decode cL_law 746 = .ok (.iadd, 1) := by decide +kernel
theorem dL_law_747 : decode cL_law 747 = .ok (.iaload, 1) := by decide +kernel
theorem dL_law_748 : decode cL_law 748 = .ok (.invokevirtual 98, 3) := by decide +kernel
theorem dL_law_751 : decode cL_law 751 = .ok (.if_icmp .eq 450, 3) := by decide +kernel
theorem dL_law_754 : decode cL_law 754 = .ok (.iconst 0, 1) := by decide +kernel
theorem dL_law_755 : decode cL_law 755 = .ok (.ireturn, 1) := by decide +kernel
theorem dL_law_756 : decode cL_law 756 = .ok (.aload_n 1, 1) := by decide +kernel
theorem dL_law_757 : decode cL_law 757 = .ok (.aload_n 0, 1) := by decide +kernel
theorem dL_law_758 : decode cL_law 758 = .ok (.iload_n 3, 1) := by decide +kernel
theorem dL_law_759 : decode cL_law 759 = .ok (.iconst 1, 1) := by decide +kernel
theorem dL_law_760 : decode cL_law 760 = .ok (.iadd, 1) := by decide +kernel
theorem dL_law_761 : decode cL_law 761 = .ok (.iaload, 1) := by decide +kernel
theorem dL_law_762 : decode cL_law 762 = .ok (.invokevirtual 99, 3) := by decide +kernel
theorem dL_law_765 : decode cL_law 765 = .ok (.aload_n 2, 1) := by decide +kernel
theorem dL_law_766 : decode cL_law 766 = .ok (.aload_n 0, 1) := by decide +kernel
theorem dL_law_767 : decode cL_law 767 = .ok (.iload_n 3, 1) := by decide +kernel
theorem dL_law_768 : decode cL_law 768 = .ok (.iconst 1, 1) := by decide +kernel
theorem dL_law_769 : decode cL_law 769 = .ok (.iadd, 1) := by decide +kernel
theorem dL_law_770 : decode cL_law 770 = .ok (.iaload, 1) := by decide +kernel
theorem dL_law_771 : decode cL_law 771 = .ok (.invokevirtual 103, 3) := by decide +kernel
theorem dL_law_774 : decode cL_law 774 = .ok (.lcmp, 1) := by decide +kernel
theorem dL_law_775 : decode cL_law 775 = .ok (.ifCond .eq 426, 3) := by decide +kernel
theorem dL_law_778 : decode cL_law 778 = .ok (.iconst 0, 1) := by decide +kernel
theorem dL_law_779 : decode cL_law 779 = .ok (.ireturn, 1) := by decide +kernel
theorem dL_law_780 : decode cL_law 780 = .ok (.aload_n 1, 1) := by decide +kernel
theorem dL_law_781 : decode cL_law 781 = .ok (.aload_n 0, 1) := by decide +kernel
theorem dL_law_782 : decode cL_law 782 = .ok (.iload_n 3, 1) := by decide +kernel
theorem dL_law_783 : decode cL_law 783 = .ok (.iconst 1, 1) := by decide +kernel
theorem dL_law_784 : decode cL_law 784 = .ok (.iadd, 1) := by decide +kernel
theorem dL_law_785 : decode cL_law 785 = .ok (.iaload, 1) := by decide +kernel
theorem dL_law_786 : decode cL_law 786 = .ok (.invokevirtual 104, 3) := by decide +kernel
theorem dL_law_789 : decode cL_law 789 = .ok (.aload_n 2, 1) := by decide +kernel
theorem dL_law_790 : decode cL_law 790 = .ok (.aload_n 0, 1) := by decide +kernel
theorem dL_law_791 : decode cL_law 791 = .ok (.iload_n 3, 1) := by decide +kernel
theorem dL_law_792 : decode cL_law 792 = .ok (.iconst 1, 1) := by decide +kernel
theorem dL_law_793 : decode cL_law 793 = .ok (.iadd, 1) := by decide +kernel
theorem dL_law_794 : decode cL_law 794 = .ok (.iaload, 1) := by decide +kernel
theorem dL_law_795 : decode cL_law 795 = .ok (.invokevirtual 107, 3) := by decide +kernel
theorem dL_law_798 : decode cL_law 798 = .ok (.lcmp, 1) := by decide +kernel
theorem dL_law_799 : decode cL_law 799 = .ok (.ifCond .eq 402, 3) := by decide +kernel
theorem dL_law_802 : decode cL_law 802 = .ok (.iconst 0, 1) := by decide +kernel
theorem dL_law_803 : decode cL_law 803 = .ok (.ireturn, 1) := by decide +kernel
theorem dL_law_804 : decode cL_law 804 = .ok (.aload_n 1, 1) := by decide +kernel
theorem dL_law_805 : decode cL_law 805 = .ok (.aload_n 0, 1) := by decide +kernel
theorem dL_law_806 : decode cL_law 806 = .ok (.iload_n 3, 1) := by decide +kernel
theorem dL_law_807 : decode cL_law 807 = .ok (.iconst 1, 1) := by decide +kernel
theorem dL_law_808 : decode cL_law 808 = .ok (.iadd, 1) := by decide +kernel
theorem dL_law_809 : decode cL_law 809 = .ok (.iaload, 1) := by decide +kernel
theorem dL_law_810 : decode cL_law 810 = .ok (.aload_n 0, 1) := by decide +kernel
theorem dL_law_811 : decode cL_law 811 = .ok (.iload_n 3, 1) := by decide +kernel
theorem dL_law_812 : decode cL_law 812 = .ok (.iconst 2, 1) := by decide +kernel
theorem dL_law_813 : decode cL_law 813 = .ok (.iadd, 1) := by decide +kernel
theorem dL_law_814 : decode cL_law 814 = .ok (.iaload, 1) := by decide +kernel
theorem dL_law_815 : decode cL_law 815 = .ok (.invokevirtual 108, 3) := by decide +kernel
theorem dL_law_818 : decode cL_law 818 = .ok (.aload_n 2, 1) := by decide +kernel
theorem dL_law_819 : decode cL_law 819 = .ok (.aload_n 0, 1) := by decide +kernel
theorem dL_law_820 : decode cL_law 820 = .ok (.iload_n 3, 1) := by decide +kernel
theorem dL_law_821 : decode cL_law 821 = .ok (.iconst 1, 1) := by decide +kernel
theorem dL_law_822 : decode cL_law 822 = .ok (.iadd, 1) := by decide +kernel
theorem dL_law_823 : decode cL_law 823 = .ok (.iaload, 1) := by decide +kernel
theorem dL_law_824 : decode cL_law 824 = .ok (.aload_n 0, 1) := by decide +kernel
theorem dL_law_825 : decode cL_law 825 = .ok (.iload_n 3, 1) := by decide +kernel
theorem dL_law_826 : decode cL_law 826 = .ok (.iconst 2, 1) := by decide +kernel
theorem dL_law_827 : decode cL_law 827 = .ok (.iadd, 1) := by decide +kernel
theorem dL_law_828 : decode cL_law 828 = .ok (.iaload, 1) := by decide +kernel
theorem dL_law_829 : decode cL_law 829 = .ok (.invokevirtual 111, 3) := by decide +kernel
theorem dL_law_832 : decode cL_law 832 = .ok (.if_icmp .eq 369, 3) := by decide +kernel
theorem dL_law_835 : decode cL_law 835 = .ok (.iconst 0, 1) := by decide +kernel
theorem dL_law_836 : decode cL_law 836 = .ok (.ireturn, 1) := by decide +kernel
theorem dL_law_837 : decode cL_law 837 = .ok (.aload_n 1, 1) := by decide +kernel
theorem dL_law_838 : decode cL_law 838 = .ok (.aload_n 0, 1) := by decide +kernel
theorem dL_law_839 : decode cL_law 839 = .ok (.iload_n 3, 1) := by decide +kernel
theorem dL_law_840 : decode cL_law 840 = .ok (.iconst 1, 1) := by decide +kernel
theorem dL_law_841 : decode cL_law 841 = .ok (.iadd, 1) := by decide +kernel
theorem dL_law_842 : decode cL_law 842 = .ok (.iaload, 1) := by decide +kernel
theorem dL_law_843 : decode cL_law 843 = .ok (.invokevirtual 112, 3) := by decide +kernel
theorem dL_law_846 : decode cL_law 846 = .ok (.aload_n 2, 1) := by decide +kernel
theorem dL_law_847 : decode cL_law 847 = .ok (.aload_n 0, 1) := by decide +kernel
theorem dL_law_848 : decode cL_law 848 = .ok (.iload_n 3, 1) := by decide +kernel
theorem dL_law_849 : decode cL_law 849 = .ok (.iconst 1, 1) := by decide +kernel
theorem dL_law_850 : decode cL_law 850 = .ok (.iadd, 1) := by decide +kernel
theorem dL_law_851 : decode cL_law 851 = .ok (.iaload, 1) := by decide +kernel
theorem dL_law_852 : decode cL_law 852 = .ok (.invokevirtual 115, 3) := by decide +kernel
theorem dL_law_855 : decode cL_law 855 = .ok (.if_icmp .eq 346, 3) := by decide +kernel
theorem dL_law_858 : decode cL_law 858 = .ok (.iconst 0, 1) := by decide +kernel
theorem dL_law_859 : decode cL_law 859 = .ok (.ireturn, 1) := by decide +kernel
theorem dL_law_860 : decode cL_law 860 = .ok (.aload_n 1, 1) := by decide +kernel
theorem dL_law_861 : decode cL_law 861 = .ok (.aload_n 0, 1) := by decide +kernel
theorem dL_law_862 : decode cL_law 862 = .ok (.iload_n 3, 1) := by decide +kernel
theorem dL_law_863 : decode cL_law 863 = .ok (.iconst 1, 1) := by decide +kernel
theorem dL_law_864 : decode cL_law 864 = .ok (.iadd, 1) := by decide +kernel
theorem dL_law_865 : decode cL_law 865 = .ok (.iaload, 1) := by decide +kernel
theorem dL_law_866 : decode cL_law 866 = .ok (.aload_n 0, 1) := by decide +kernel
theorem dL_law_867 : decode cL_law 867 = .ok (.iload_n 3, 1) := by decide +kernel
theorem dL_law_868 : decode cL_law 868 = .ok (.iconst 2, 1) := by decide +kernel
theorem dL_law_869 : decode cL_law 869 = .ok (.iadd, 1) := by decide +kernel
theorem dL_law_870 : decode cL_law 870 = .ok (.iaload, 1) := by decide +kernel
theorem dL_law_871 : decode cL_law 871 = .ok (.invokevirtual 116, 3) := by decide +kernel
theorem dL_law_874 : decode cL_law 874 = .ok (.aload_n 2, 1) := by decide +kernel
theorem dL_law_875 : decode cL_law 875 = .ok (.aload_n 0, 1) := by decide +kernel
theorem dL_law_876 : decode cL_law 876 = .ok (.iload_n 3, 1) := by decide +kernel
theorem dL_law_877 : decode cL_law 877 = .ok (.iconst 1, 1) := by decide +kernel
theorem dL_law_878 : decode cL_law 878 = .ok (.iadd, 1) := by decide +kernel
theorem dL_law_879 : decode cL_law 879 = .ok (.iaload, 1) := by decide +kernel
theorem dL_law_880 : decode cL_law 880 = .ok (.aload_n 0, 1) := by decide +kernel
theorem dL_law_881 : decode cL_law 881 = .ok (.iload_n 3, 1) := by decide +kernel
theorem dL_law_882 : decode cL_law 882 = .ok (.iconst 2, 1) := by decide +kernel
theorem dL_law_883 : decode cL_law 883 = .ok (.iadd, 1) := by decide +kernel
theorem dL_law_884 : decode cL_law 884 = .ok (.iaload, 1) := by decide +kernel
theorem dL_law_885 : decode cL_law 885 = .ok (.invokevirtual 119, 3) := by decide +kernel
theorem dL_law_888 : decode cL_law 888 = .ok (.if_icmp .eq 313, 3) := by decide +kernel
theorem dL_law_891 : decode cL_law 891 = .ok (.iconst 0, 1) := by decide +kernel
theorem dL_law_892 : decode cL_law 892 = .ok (.ireturn, 1) := by decide +kernel
theorem dL_law_893 : decode cL_law 893 = .ok (.aload_n 1, 1) := by decide +kernel
theorem dL_law_894 : decode cL_law 894 = .ok (.invokevirtual 120, 3) := by decide +kernel
theorem dL_law_897 : decode cL_law 897 = .ok (.aload_n 2, 1) := by decide +kernel
theorem dL_law_898 : decode cL_law 898 = .ok (.invokevirtual 123, 3) := by decide +kernel
theorem dL_law_901 : decode cL_law 901 = .ok (.if_icmp .eq 300, 3) := by decide +kernel
theorem dL_law_904 : decode cL_law 904 = .ok (.iconst 0, 1) := by decide +kernel
theorem dL_law_905 : decode cL_law 905 = .ok (.ireturn, 1) := by decide +kernel
theorem dL_law_906 : decode cL_law 906 = .ok (.aload_n 1, 1) := by decide +kernel
theorem dL_law_907 : decode cL_law 907 = .ok (.aload_n 0, 1) := by decide +kernel
theorem dL_law_908 : decode cL_law 908 = .ok (.iload_n 3, 1) := by decide +kernel
theorem dL_law_909 : decode cL_law 909 = .ok (.iconst 1, 1) := by decide +kernel
theorem dL_law_910 : decode cL_law 910 = .ok (.iadd, 1) := by decide +kernel
theorem dL_law_911 : decode cL_law 911 = .ok (.iaload, 1) := by decide +kernel
theorem dL_law_912 : decode cL_law 912 = .ok (.aload_n 0, 1) := by decide +kernel
theorem dL_law_913 : decode cL_law 913 = .ok (.iload_n 3, 1) := by decide +kernel
theorem dL_law_914 : decode cL_law 914 = .ok (.iconst 2, 1) := by decide +kernel
theorem dL_law_915 : decode cL_law 915 = .ok (.iadd, 1) := by decide +kernel
theorem dL_law_916 : decode cL_law 916 = .ok (.iaload, 1) := by decide +kernel
theorem dL_law_917 : decode cL_law 917 = .ok (.invokevirtual 124, 3) := by decide +kernel
theorem dL_law_920 : decode cL_law 920 = .ok (.aload_n 2, 1) := by decide +kernel
theorem dL_law_921 : decode cL_law 921 = .ok (.aload_n 0, 1) := by decide +kernel
theorem dL_law_922 : decode cL_law 922 = .ok (.iload_n 3, 1) := by decide +kernel
theorem dL_law_923 : decode cL_law 923 = .ok (.iconst 1, 1) := by decide +kernel
theorem dL_law_924 : decode cL_law 924 = .ok (.iadd, 1) := by decide +kernel
theorem dL_law_925 : decode cL_law 925 = .ok (.iaload, 1) := by decide +kernel
theorem dL_law_926 : decode cL_law 926 = .ok (.aload_n 0, 1) := by decide +kernel
theorem dL_law_927 : decode cL_law 927 = .ok (.iload_n 3, 1) := by decide +kernel
theorem dL_law_928 : decode cL_law 928 = .ok (.iconst 2, 1) := by decide +kernel
theorem dL_law_929 : decode cL_law 929 = .ok (.iadd, 1) := by decide +kernel
theorem dL_law_930 : decode cL_law 930 = .ok (.iaload, 1) := by decide +kernel
theorem dL_law_931 : decode cL_law 931 = .ok (.invokevirtual 127, 3) := by decide +kernel
theorem dL_law_934 : decode cL_law 934 = .ok (.if_icmp .eq 267, 3) := by decide +kernel
theorem dL_law_937 : decode cL_law 937 = .ok (.iconst 0, 1) := by decide +kernel
theorem dL_law_938 : decode cL_law 938 = .ok (.ireturn, 1) := by decide +kernel
theorem dL_law_939 : decode cL_law 939 = .ok (.aload_n 1, 1) := by decide +kernel
theorem dL_law_940 : decode cL_law 940 = .ok (.invokevirtual 128, 3) := by decide +kernel
theorem dL_law_943 : decode cL_law 943 = .ok (.aload_n 2, 1) := by decide +kernel
theorem dL_law_944 : decode cL_law 944 = .ok (.invokevirtual 131, 3) := by decide +kernel
theorem dL_law_947 : decode cL_law 947 = .ok (.if_icmp .eq 254, 3) := by decide +kernel
theorem dL_law_950 : decode cL_law 950 = .ok (.iconst 0, 1) := by decide +kernel
theorem dL_law_951 : decode cL_law 951 = .ok (.ireturn, 1) := by decide +kernel
theorem dL_law_952 : decode cL_law 952 = .ok (.aload_n 1, 1) := by decide +kernel
theorem dL_law_953 : decode cL_law 953 = .ok (.invokevirtual 132, 3) := by decide +kernel
theorem dL_law_956 : decode cL_law 956 = .ok (.aload_n 2, 1) := by decide +kernel
theorem dL_law_957 : decode cL_law 957 = .ok (.invokevirtual 135, 3) := by decide +kernel
theorem dL_law_960 : decode cL_law 960 = .ok (.if_icmp .eq 241, 3) := by decide +kernel
theorem dL_law_963 : decode cL_law 963 = .ok (.iconst 0, 1) := by decide +kernel
theorem dL_law_964 : decode cL_law 964 = .ok (.ireturn, 1) := by decide +kernel
theorem dL_law_965 : decode cL_law 965 = .ok (.aload_n 1, 1) := by decide +kernel
theorem dL_law_966 : decode cL_law 966 = .ok (.aload_n 0, 1) := by decide +kernel
theorem dL_law_967 : decode cL_law 967 = .ok (.iload_n 3, 1) := by decide +kernel
theorem dL_law_968 : decode cL_law 968 = .ok (.iconst 1, 1) := by decide +kernel
theorem dL_law_969 : decode cL_law 969 = .ok (.iadd, 1) := by decide +kernel
theorem dL_law_970 : decode cL_law 970 = .ok (.iaload, 1) := by decide +kernel
theorem dL_law_971 : decode cL_law 971 = .ok (.invokevirtual 136, 3) := by decide +kernel
theorem dL_law_974 : decode cL_law 974 = .ok (.aload_n 2, 1) := by decide +kernel
theorem dL_law_975 : decode cL_law 975 = .ok (.aload_n 0, 1) := by decide +kernel
theorem dL_law_976 : decode cL_law 976 = .ok (.iload_n 3, 1) := by decide +kernel
theorem dL_law_977 : decode cL_law 977 = .ok (.iconst 1, 1) := by decide +kernel
theorem dL_law_978 : decode cL_law 978 = .ok (.iadd, 1) := by decide +kernel
theorem dL_law_979 : decode cL_law 979 = .ok (.iaload, 1) := by decide +kernel
theorem dL_law_980 : decode cL_law 980 = .ok (.invokevirtual 139, 3) := by decide +kernel
theorem dL_law_983 : decode cL_law 983 = .ok (.if_icmp .eq 218, 3) := by decide +kernel
theorem dL_law_986 : decode cL_law 986 = .ok (.iconst 0, 1) := by decide +kernel
theorem dL_law_987 : decode cL_law 987 = .ok (.ireturn, 1) := by decide +kernel
theorem dL_law_988 : decode cL_law 988 = .ok (.aload_n 1, 1) := by decide +kernel
theorem dL_law_989 : decode cL_law 989 = .ok (.aload_n 0, 1) := by decide +kernel
theorem dL_law_990 : decode cL_law 990 = .ok (.iload_n 3, 1) := by decide +kernel
theorem dL_law_991 : decode cL_law 991 = .ok (.iconst 1, 1) := by decide +kernel
theorem dL_law_992 : decode cL_law 992 = .ok (.iadd, 1) := by decide +kernel
theorem dL_law_993 : decode cL_law 993 = .ok (.iaload, 1) := by decide +kernel
theorem dL_law_994 : decode cL_law 994 = .ok (.aload_n 0, 1) := by decide +kernel
theorem dL_law_995 : decode cL_law 995 = .ok (.iload_n 3, 1) := by decide +kernel
theorem dL_law_996 : decode cL_law 996 = .ok (.iconst 2, 1) := by decide +kernel
theorem dL_law_997 : decode cL_law 997 = .ok (.iadd, 1) := by decide +kernel
theorem dL_law_998 : decode cL_law 998 = .ok (.iaload, 1) := by decide +kernel
theorem dL_law_999 : decode cL_law 999 = .ok (.aload_n 0, 1) := by decide +kernel
theorem dL_law_1000 : decode cL_law 1000 = .ok (.iload_n 3, 1) := by decide +kernel
theorem dL_law_1001 : decode cL_law 1001 = .ok (.iconst 3, 1) := by decide +kernel
theorem dL_law_1002 : decode cL_law 1002 = .ok (.iadd, 1) := by decide +kernel
theorem dL_law_1003 : decode cL_law 1003 = .ok (.iaload, 1) := by decide +kernel
theorem dL_law_1004 : decode cL_law 1004 = .ok (.invokevirtual 140, 3) := by decide +kernel
theorem dL_law_1007 : decode cL_law 1007 = .ok (.aload_n 2, 1) := by decide +kernel
theorem dL_law_1008 : decode cL_law 1008 = .ok (.aload_n 0, 1) := by decide +kernel
theorem dL_law_1009 : decode cL_law 1009 = .ok (.iload_n 3, 1) := by decide +kernel
theorem dL_law_1010 : decode cL_law 1010 = .ok (.iconst 1, 1) := by decide +kernel
theorem dL_law_1011 : decode cL_law 1011 = .ok (.iadd, 1) := by decide +kernel
theorem dL_law_1012 : decode cL_law 1012 = .ok (.iaload, 1) := by decide +kernel
theorem dL_law_1013 : decode cL_law 1013 = .ok (.aload_n 0, 1) := by decide +kernel
theorem dL_law_1014 : decode cL_law 1014 = .ok (.iload_n 3, 1) := by decide +kernel
theorem dL_law_1015 : decode cL_law 1015 = .ok (.iconst 2, 1) := by decide +kernel
theorem dL_law_1016 : decode cL_law 1016 = .ok (.iadd, 1) := by decide +kernel
theorem dL_law_1017 : decode cL_law 1017 = .ok (.iaload, 1) := by decide +kernel
theorem dL_law_1018 : decode cL_law 1018 = .ok (.aload_n 0, 1) := by decide +kernel
theorem dL_law_1019 : decode cL_law 1019 = .ok (.iload_n 3, 1) := by decide +kernel
theorem dL_law_1020 : decode cL_law 1020 = .ok (.iconst 3, 1) := by decide +kernel
theorem dL_law_1021 : decode cL_law 1021 = .ok (.iadd, 1) := by decide +kernel
theorem dL_law_1022 : decode cL_law 1022 = .ok (.iaload, 1) := by decide +kernel
theorem dL_law_1023 : decode cL_law 1023 = .ok (.invokevirtual 143, 3) := by decide +kernel
theorem dL_law_1026 : decode cL_law 1026 = .ok (.if_icmp .eq 175, 3) := by decide +kernel
theorem dL_law_1029 : decode cL_law 1029 = .ok (.iconst 0, 1) := by decide +kernel
theorem dL_law_1030 : decode cL_law 1030 = .ok (.ireturn, 1) := by decide +kernel
theorem dL_law_1031 : decode cL_law 1031 = .ok (.aload_n 1, 1) := by decide +kernel
theorem dL_law_1032 : decode cL_law 1032 = .ok (.aload_n 0, 1) := by decide +kernel
theorem dL_law_1033 : decode cL_law 1033 = .ok (.iload_n 3, 1) := by decide +kernel
theorem dL_law_1034 : decode cL_law 1034 = .ok (.iconst 1, 1) := by decide +kernel
theorem dL_law_1035 : decode cL_law 1035 = .ok (.iadd, 1) := by decide +kernel
theorem dL_law_1036 : decode cL_law 1036 = .ok (.iaload, 1) := by decide +kernel
theorem dL_law_1037 : decode cL_law 1037 = .ok (.aload_n 0, 1) := by decide +kernel
theorem dL_law_1038 : decode cL_law 1038 = .ok (.iload_n 3, 1) := by decide +kernel
theorem dL_law_1039 : decode cL_law 1039 = .ok (.iconst 2, 1) := by decide +kernel
theorem dL_law_1040 : decode cL_law 1040 = .ok (.iadd, 1) := by decide +kernel
theorem dL_law_1041 : decode cL_law 1041 = .ok (.iaload, 1) := by decide +kernel
theorem dL_law_1042 : decode cL_law 1042 = .ok (.aload_n 0, 1) := by decide +kernel
theorem dL_law_1043 : decode cL_law 1043 = .ok (.iload_n 3, 1) := by decide +kernel
theorem dL_law_1044 : decode cL_law 1044 = .ok (.iconst 3, 1) := by decide +kernel
theorem dL_law_1045 : decode cL_law 1045 = .ok (.iadd, 1) := by decide +kernel
theorem dL_law_1046 : decode cL_law 1046 = .ok (.iaload, 1) := by decide +kernel
theorem dL_law_1047 : decode cL_law 1047 = .ok (.i2l, 1) := by decide +kernel
theorem dL_law_1048 : decode cL_law 1048 = .ok (.bipush 32, 2) := by decide +kernel
theorem dL_law_1050 : decode cL_law 1050 = .ok (.lshl, 1) := by decide +kernel
theorem dL_law_1051 : decode cL_law 1051 = .ok (.aload_n 0, 1) := by decide +kernel
theorem dL_law_1052 : decode cL_law 1052 = .ok (.iload_n 3, 1) := by decide +kernel
theorem dL_law_1053 : decode cL_law 1053 = .ok (.iconst 4, 1) := by decide +kernel
theorem dL_law_1054 : decode cL_law 1054 = .ok (.iadd, 1) := by decide +kernel
theorem dL_law_1055 : decode cL_law 1055 = .ok (.iaload, 1) := by decide +kernel
theorem dL_law_1056 : decode cL_law 1056 = .ok (.i2l, 1) := by decide +kernel
theorem dL_law_1057 : decode cL_law 1057 = .ok (.ldc2_w 144, 3) := by decide +kernel
theorem dL_law_1060 : decode cL_law 1060 = .ok (.land, 1) := by decide +kernel
theorem dL_law_1061 : decode cL_law 1061 = .ok (.lor, 1) := by decide +kernel
theorem dL_law_1062 : decode cL_law 1062 = .ok (.invokevirtual 146, 3) := by decide +kernel
theorem dL_law_1065 : decode cL_law 1065 = .ok (.aload_n 2, 1) := by decide +kernel
theorem dL_law_1066 : decode cL_law 1066 = .ok (.aload_n 0, 1) := by decide +kernel
theorem dL_law_1067 : decode cL_law 1067 = .ok (.iload_n 3, 1) := by decide +kernel
theorem dL_law_1068 : decode cL_law 1068 = .ok (.iconst 1, 1) := by decide +kernel
theorem dL_law_1069 : decode cL_law 1069 = .ok (.iadd, 1) := by decide +kernel
theorem dL_law_1070 : decode cL_law 1070 = .ok (.iaload, 1) := by decide +kernel
theorem dL_law_1071 : decode cL_law 1071 = .ok (.aload_n 0, 1) := by decide +kernel
theorem dL_law_1072 : decode cL_law 1072 = .ok (.iload_n 3, 1) := by decide +kernel
theorem dL_law_1073 : decode cL_law 1073 = .ok (.iconst 2, 1) := by decide +kernel
theorem dL_law_1074 : decode cL_law 1074 = .ok (.iadd, 1) := by decide +kernel
theorem dL_law_1075 : decode cL_law 1075 = .ok (.iaload, 1) := by decide +kernel
theorem dL_law_1076 : decode cL_law 1076 = .ok (.aload_n 0, 1) := by decide +kernel
theorem dL_law_1077 : decode cL_law 1077 = .ok (.iload_n 3, 1) := by decide +kernel
theorem dL_law_1078 : decode cL_law 1078 = .ok (.iconst 3, 1) := by decide +kernel
theorem dL_law_1079 : decode cL_law 1079 = .ok (.iadd, 1) := by decide +kernel
theorem dL_law_1080 : decode cL_law 1080 = .ok (.iaload, 1) := by decide +kernel
theorem dL_law_1081 : decode cL_law 1081 = .ok (.i2l, 1) := by decide +kernel
theorem dL_law_1082 : decode cL_law 1082 = .ok (.bipush 32, 2) := by decide +kernel
theorem dL_law_1084 : decode cL_law 1084 = .ok (.lshl, 1) := by decide +kernel
theorem dL_law_1085 : decode cL_law 1085 = .ok (.aload_n 0, 1) := by decide +kernel
theorem dL_law_1086 : decode cL_law 1086 = .ok (.iload_n 3, 1) := by decide +kernel
theorem dL_law_1087 : decode cL_law 1087 = .ok (.iconst 4, 1) := by decide +kernel
theorem dL_law_1088 : decode cL_law 1088 = .ok (.iadd, 1) := by decide +kernel
theorem dL_law_1089 : decode cL_law 1089 = .ok (.iaload, 1) := by decide +kernel
theorem dL_law_1090 : decode cL_law 1090 = .ok (.i2l, 1) := by decide +kernel
theorem dL_law_1091 : decode cL_law 1091 = .ok (.ldc2_w 144, 3) := by decide +kernel
theorem dL_law_1094 : decode cL_law 1094 = .ok (.land, 1) := by decide +kernel
theorem dL_law_1095 : decode cL_law 1095 = .ok (.lor, 1) := by decide +kernel
theorem dL_law_1096 : decode cL_law 1096 = .ok (.invokevirtual 150, 3) := by decide +kernel
theorem dL_law_1099 : decode cL_law 1099 = .ok (.if_icmp .eq 102, 3) := by decide +kernel
theorem dL_law_1102 : decode cL_law 1102 = .ok (.iconst 0, 1) := by decide +kernel
theorem dL_law_1103 : decode cL_law 1103 = .ok (.ireturn, 1) := by decide +kernel
theorem dL_law_1104 : decode cL_law 1104 = .ok (.aload_n 1, 1) := by decide +kernel
theorem dL_law_1105 : decode cL_law 1105 = .ok (.aload_n 0, 1) := by decide +kernel
theorem dL_law_1106 : decode cL_law 1106 = .ok (.iload_n 3, 1) := by decide +kernel
theorem dL_law_1107 : decode cL_law 1107 = .ok (.iconst 1, 1) := by decide +kernel
theorem dL_law_1108 : decode cL_law 1108 = .ok (.iadd, 1) := by decide +kernel
theorem dL_law_1109 : decode cL_law 1109 = .ok (.iaload, 1) := by decide +kernel
theorem dL_law_1110 : decode cL_law 1110 = .ok (.aload_n 0, 1) := by decide +kernel
theorem dL_law_1111 : decode cL_law 1111 = .ok (.iload_n 3, 1) := by decide +kernel
theorem dL_law_1112 : decode cL_law 1112 = .ok (.iconst 2, 1) := by decide +kernel
theorem dL_law_1113 : decode cL_law 1113 = .ok (.iadd, 1) := by decide +kernel
theorem dL_law_1114 : decode cL_law 1114 = .ok (.iaload, 1) := by decide +kernel
theorem dL_law_1115 : decode cL_law 1115 = .ok (.invokevirtual 151, 3) := by decide +kernel
theorem dL_law_1118 : decode cL_law 1118 = .ok (.aload_n 2, 1) := by decide +kernel
theorem dL_law_1119 : decode cL_law 1119 = .ok (.aload_n 0, 1) := by decide +kernel
theorem dL_law_1120 : decode cL_law 1120 = .ok (.iload_n 3, 1) := by decide +kernel
theorem dL_law_1121 : decode cL_law 1121 = .ok (.iconst 1, 1) := by decide +kernel
theorem dL_law_1122 : decode cL_law 1122 = .ok (.iadd, 1) := by decide +kernel
theorem dL_law_1123 : decode cL_law 1123 = .ok (.iaload, 1) := by decide +kernel
theorem dL_law_1124 : decode cL_law 1124 = .ok (.aload_n 0, 1) := by decide +kernel
theorem dL_law_1125 : decode cL_law 1125 = .ok (.iload_n 3, 1) := by decide +kernel
theorem dL_law_1126 : decode cL_law 1126 = .ok (.iconst 2, 1) := by decide +kernel
theorem dL_law_1127 : decode cL_law 1127 = .ok (.iadd, 1) := by decide +kernel
theorem dL_law_1128 : decode cL_law 1128 = .ok (.iaload, 1) := by decide +kernel
theorem dL_law_1129 : decode cL_law 1129 = .ok (.invokevirtual 154, 3) := by decide +kernel
theorem dL_law_1132 : decode cL_law 1132 = .ok (.lcmp, 1) := by decide +kernel
theorem dL_law_1133 : decode cL_law 1133 = .ok (.ifCond .eq 68, 3) := by decide +kernel
theorem dL_law_1136 : decode cL_law 1136 = .ok (.iconst 0, 1) := by decide +kernel
theorem dL_law_1137 : decode cL_law 1137 = .ok (.ireturn, 1) := by decide +kernel
theorem dL_law_1138 : decode cL_law 1138 = .ok (.aload_n 1, 1) := by decide +kernel
theorem dL_law_1139 : decode cL_law 1139 = .ok (.aload_n 0, 1) := by decide +kernel
theorem dL_law_1140 : decode cL_law 1140 = .ok (.iload_n 3, 1) := by decide +kernel
theorem dL_law_1141 : decode cL_law 1141 = .ok (.iconst 1, 1) := by decide +kernel
theorem dL_law_1142 : decode cL_law 1142 = .ok (.iadd, 1) := by decide +kernel
theorem dL_law_1143 : decode cL_law 1143 = .ok (.iaload, 1) := by decide +kernel
theorem dL_law_1144 : decode cL_law 1144 = .ok (.aload_n 0, 1) := by decide +kernel
theorem dL_law_1145 : decode cL_law 1145 = .ok (.iload_n 3, 1) := by decide +kernel
theorem dL_law_1146 : decode cL_law 1146 = .ok (.iconst 2, 1) := by decide +kernel
theorem dL_law_1147 : decode cL_law 1147 = .ok (.iadd, 1) := by decide +kernel
theorem dL_law_1148 : decode cL_law 1148 = .ok (.iaload, 1) := by decide +kernel
theorem dL_law_1149 : decode cL_law 1149 = .ok (.aload_n 0, 1) := by decide +kernel
theorem dL_law_1150 : decode cL_law 1150 = .ok (.iload_n 3, 1) := by decide +kernel
theorem dL_law_1151 : decode cL_law 1151 = .ok (.iconst 3, 1) := by decide +kernel
theorem dL_law_1152 : decode cL_law 1152 = .ok (.iadd, 1) := by decide +kernel
theorem dL_law_1153 : decode cL_law 1153 = .ok (.iaload, 1) := by decide +kernel
theorem dL_law_1154 : decode cL_law 1154 = .ok (.aload_n 0, 1) := by decide +kernel
theorem dL_law_1155 : decode cL_law 1155 = .ok (.iload_n 3, 1) := by decide +kernel
theorem dL_law_1156 : decode cL_law 1156 = .ok (.iconst 4, 1) := by decide +kernel
theorem dL_law_1157 : decode cL_law 1157 = .ok (.iadd, 1) := by decide +kernel
theorem dL_law_1158 : decode cL_law 1158 = .ok (.iaload, 1) := by decide +kernel
theorem dL_law_1159 : decode cL_law 1159 = .ok (.aload_n 0, 1) := by decide +kernel
theorem dL_law_1160 : decode cL_law 1160 = .ok (.iload_n 3, 1) := by decide +kernel
theorem dL_law_1161 : decode cL_law 1161 = .ok (.iconst 5, 1) := by decide +kernel
theorem dL_law_1162 : decode cL_law 1162 = .ok (.iadd, 1) := by decide +kernel
theorem dL_law_1163 : decode cL_law 1163 = .ok (.iaload, 1) := by decide +kernel
theorem dL_law_1164 : decode cL_law 1164 = .ok (.invokevirtual 155, 3) := by decide +kernel
theorem dL_law_1167 : decode cL_law 1167 = .ok (.aload_n 2, 1) := by decide +kernel
theorem dL_law_1168 : decode cL_law 1168 = .ok (.aload_n 0, 1) := by decide +kernel
theorem dL_law_1169 : decode cL_law 1169 = .ok (.iload_n 3, 1) := by decide +kernel
theorem dL_law_1170 : decode cL_law 1170 = .ok (.iconst 1, 1) := by decide +kernel
theorem dL_law_1171 : decode cL_law 1171 = .ok (.iadd, 1) := by decide +kernel
theorem dL_law_1172 : decode cL_law 1172 = .ok (.iaload, 1) := by decide +kernel
theorem dL_law_1173 : decode cL_law 1173 = .ok (.aload_n 0, 1) := by decide +kernel
theorem dL_law_1174 : decode cL_law 1174 = .ok (.iload_n 3, 1) := by decide +kernel
theorem dL_law_1175 : decode cL_law 1175 = .ok (.iconst 2, 1) := by decide +kernel
theorem dL_law_1176 : decode cL_law 1176 = .ok (.iadd, 1) := by decide +kernel
theorem dL_law_1177 : decode cL_law 1177 = .ok (.iaload, 1) := by decide +kernel
theorem dL_law_1178 : decode cL_law 1178 = .ok (.aload_n 0, 1) := by decide +kernel
theorem dL_law_1179 : decode cL_law 1179 = .ok (.iload_n 3, 1) := by decide +kernel
theorem dL_law_1180 : decode cL_law 1180 = .ok (.iconst 3, 1) := by decide +kernel
theorem dL_law_1181 : decode cL_law 1181 = .ok (.iadd, 1) := by decide +kernel
theorem dL_law_1182 : decode cL_law 1182 = .ok (.iaload, 1) := by decide +kernel
theorem dL_law_1183 : decode cL_law 1183 = .ok (.aload_n 0, 1) := by decide +kernel
theorem dL_law_1184 : decode cL_law 1184 = .ok (.iload_n 3, 1) := by decide +kernel
theorem dL_law_1185 : decode cL_law 1185 = .ok (.iconst 4, 1) := by decide +kernel
theorem dL_law_1186 : decode cL_law 1186 = .ok (.iadd, 1) := by decide +kernel
theorem dL_law_1187 : decode cL_law 1187 = .ok (.iaload, 1) := by decide +kernel
theorem dL_law_1188 : decode cL_law 1188 = .ok (.aload_n 0, 1) := by decide +kernel
theorem dL_law_1189 : decode cL_law 1189 = .ok (.iload_n 3, 1) := by decide +kernel
theorem dL_law_1190 : decode cL_law 1190 = .ok (.iconst 5, 1) := by decide +kernel
theorem dL_law_1191 : decode cL_law 1191 = .ok (.iadd, 1) := by decide +kernel
theorem dL_law_1192 : decode cL_law 1192 = .ok (.iaload, 1) := by decide +kernel
theorem dL_law_1193 : decode cL_law 1193 = .ok (.invokevirtual 159, 3) := by decide +kernel
theorem dL_law_1196 : decode cL_law 1196 = .ok (.if_icmp .eq 5, 3) := by decide +kernel
theorem dL_law_1199 : decode cL_law 1199 = .ok (.iconst 0, 1) := by decide +kernel
theorem dL_law_1200 : decode cL_law 1200 = .ok (.ireturn, 1) := by decide +kernel
theorem dL_law_1201 : decode cL_law 1201 = .ok (.iinc 3 6, 3) := by decide +kernel
theorem dL_law_1204 : decode cL_law 1204 = .ok (.goto (-1186), 3) := by decide +kernel
theorem dL_law_1207 : decode cL_law 1207 = .ok (.iconst 1, 1) := by decide +kernel
theorem dL_law_1208 : decode cL_law 1208 = .ok (.ireturn, 1) := by decide +kernel
