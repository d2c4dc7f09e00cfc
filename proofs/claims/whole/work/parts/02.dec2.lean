theorem dX10_multiplies_0 : decode cX10_multiplies 0 = .ok (.iconst 4, 1) := by decide +kernel
theorem dX10_multiplies_1 : decode cX10_multiplies 1 = .ok (.istore 5, 2) := by decide +kernel
theorem dX10_multiplies_3 : decode cX10_multiplies 3 = .ok (.iload 5, 2) := by decide +kernel
theorem dX10_multiplies_5 : decode cX10_multiplies 5 = .ok (.ifCond .lt 46, 3) := by decide +kernel
theorem dX10_multiplies_8 : decode cX10_multiplies 8 = .ok (.aload_n 0, 1) := by decide +kernel
theorem dX10_multiplies_9 : decode cX10_multiplies 9 = .ok (.getfield 38, 3) := by decide +kernel
theorem dX10_multiplies_12 : decode cX10_multiplies 12 = .ok (.iload 5, 2) := by decide +kernel
theorem dX10_multiplies_14 : decode cX10_multiplies 14 = .ok (.lload_n 1, 1) := by decide +kernel
theorem dX10_multiplies_15 : decode cX10_multiplies 15 = .ok (.aload_n 0, 1) := by decide +kernel
theorem dX10_multiplies_16 : decode cX10_multiplies 16 = .ok (.getfield 38, 3) := by decide +kernel
theorem dX10_multiplies_19 : decode cX10_multiplies 19 = .ok (.iload 5, 2) := by decide +kernel
theorem dX10_multiplies_21 : decode cX10_multiplies 21 = .ok (.laload, 1) := by decide +kernel
theorem dX10_multiplies_22 : decode cX10_multiplies 22 = .ok (.lmul, 1) := by decide +kernel
theorem dX10_multiplies_23 : decode cX10_multiplies 23 = .ok (.iload 5, 2) := by decide +kernel
theorem dX10_multiplies_25 : decode cX10_multiplies 25 = .ok (.ifCond .le 17, 3) := by decide +kernel
theorem dX10_multiplies_28 : decode cX10_multiplies 28 = .ok (.lload_n 3, 1) := by decide +kernel
theorem dX10_multiplies_29 : decode cX10_multiplies 29 = .ok (.aload_n 0, 1) := by decide +kernel
theorem dX10_multiplies_30 : decode cX10_multiplies 30 = .ok (.getfield 38, 3) := by decide +kernel
theorem dX10_multiplies_33 : decode cX10_multiplies 33 = .ok (.iload 5, 2) := by decide +kernel
theorem dX10_multiplies_35 : decode cX10_multiplies 35 = .ok (.iconst 1, 1) := by decide +kernel
theorem dX10_multiplies_36 : decode cX10_multiplies 36 = .ok (.isub, 1) := by decide +kernel
theorem dX10_multiplies_37 : decode cX10_multiplies 37 = .ok (.laload, 1) := by decide +kernel
theorem dX10_multiplies_38 : decode cX10_multiplies 38 = .ok (.lmul, 1) := by decide +kernel
theorem dX10_multiplies_39 : decode cX10_multiplies 39 = .ok (.goto 4, 3) := by decide +kernel
theorem dX10_multiplies_42 : decode cX10_multiplies 42 = .ok (.lconst 0, 1) := by decide +kernel
theorem dX10_multiplies_43 : decode cX10_multiplies 43 = .ok (.ladd, 1) := by decide +kernel
theorem dX10_multiplies_44 : decode cX10_multiplies 44 = .ok (.lastore, 1) := by decide +kernel
theorem dX10_multiplies_45 : decode cX10_multiplies 45 = .ok (.iinc 5 (-1), 3) := by decide +kernel
theorem dX10_multiplies_48 : decode cX10_multiplies 48 = .ok (.goto (-45), 3) := by decide +kernel
theorem dX10_multiplies_51 : decode cX10_multiplies 51 = .ok (.return_, 1) := by decide +kernel
theorem dX10_turns_0 : decode cX10_turns 0 = .ok (.iconst 0, 1) := by decide +kernel
theorem dX10_turns_1 : decode cX10_turns 1 = .ok (.istore 9, 2) := by decide +kernel
theorem dX10_turns_3 : decode cX10_turns 3 = .ok (.iload 9, 2) := by decide +kernel
theorem dX10_turns_5 : decode cX10_turns 5 = .ok (.iconst 5, 1) := by decide +kernel
theorem dX10_turns_6 : decode cX10_turns 6 = .ok (.if_icmp .ge 17, 3) := by decide +kernel
theorem dX10_turns_9 : decode cX10_turns 9 = .ok (.aload_n 0, 1) := by decide +kernel
theorem dX10_turns_10 : decode cX10_turns 10 = .ok (.getfield 35, 3) := by decide +kernel
theorem dX10_turns_13 : decode cX10_turns 13 = .ok (.iload 9, 2) := by decide +kernel
theorem dX10_turns_15 : decode cX10_turns 15 = .ok (.lconst 0, 1) := by decide +kernel
theorem dX10_turns_16 : decode cX10_turns 16 = .ok (.lastore, 1) := by decide +kernel
theorem dX10_turns_17 : decode cX10_turns 17 = .ok (.iinc 9 1, 3) := by decide +kernel
theorem dX10_turns_20 : decode cX10_turns 20 = .ok (.goto (-17), 3) := by decide +kernel
theorem dX10_turns_23 : decode cX10_turns 23 = .ok (.iconst 0, 1) := by decide +kernel
theorem dX10_turns_24 : decode cX10_turns 24 = .ok (.istore 9, 2) := by decide +kernel
theorem dX10_turns_26 : decode cX10_turns 26 = .ok (.iload 9, 2) := by decide +kernel
theorem dX10_turns_28 : decode cX10_turns 28 = .ok (.aload_n 0, 1) := by decide +kernel
theorem dX10_turns_29 : decode cX10_turns 29 = .ok (.getfield 9, 3) := by decide +kernel
theorem dX10_turns_32 : decode cX10_turns 32 = .ok (.if_icmp .gt 140, 3) := by decide +kernel
theorem dX10_turns_35 : decode cX10_turns 35 = .ok (.iconst 0, 1) := by decide +kernel
theorem dX10_turns_36 : decode cX10_turns 36 = .ok (.istore 10, 2) := by decide +kernel
theorem dX10_turns_38 : decode cX10_turns 38 = .ok (.iload 10, 2) := by decide +kernel
theorem dX10_turns_40 : decode cX10_turns 40 = .ok (.iconst 5, 1) := by decide +kernel
theorem dX10_turns_41 : decode cX10_turns 41 = .ok (.if_icmp .ge 32, 3) := by decide +kernel
theorem dX10_turns_44 : decode cX10_turns 44 = .ok (.aload_n 0, 1) := by decide +kernel
theorem dX10_turns_45 : decode cX10_turns 45 = .ok (.getfield 38, 3) := by decide +kernel
theorem dX10_turns_48 : decode cX10_turns 48 = .ok (.iload 10, 2) := by decide +kernel
theorem dX10_turns_50 : decode cX10_turns 50 = .ok (.iload 10, 2) := by decide +kernel
theorem dX10_turns_52 : decode cX10_turns 52 = .ok (.ifCond .ne 13, 3) := by decide +kernel
theorem dX10_turns_55 : decode cX10_turns 55 = .ok (.aload_n 0, 1) := by decide +kernel
theorem dX10_turns_56 : decode cX10_turns 56 = .ok (.getfield 15, 3) := by decide +kernel
theorem dX10_turns_59 : decode cX10_turns 59 = .ok (.iload 9, 2) := by decide +kernel
theorem dX10_turns_61 : decode cX10_turns 61 = .ok (.laload, 1) := by decide +kernel
theorem dX10_turns_62 : decode cX10_turns 62 = .ok (.goto 4, 3) := by decide +kernel
theorem dX10_turns_65 : decode cX10_turns 65 = .ok (.lconst 0, 1) := by decide +kernel
theorem dX10_turns_66 : decode cX10_turns 66 = .ok (.lastore, 1) := by decide +kernel
theorem dX10_turns_67 : decode cX10_turns 67 = .ok (.iinc 10 1, 3) := by decide +kernel
theorem dX10_turns_70 : decode cX10_turns 70 = .ok (.goto (-32), 3) := by decide +kernel
theorem dX10_turns_73 : decode cX10_turns 73 = .ok (.iconst 0, 1) := by decide +kernel
theorem dX10_turns_74 : decode cX10_turns 74 = .ok (.istore 10, 2) := by decide +kernel
theorem dX10_turns_76 : decode cX10_turns 76 = .ok (.iload 10, 2) := by decide +kernel
theorem dX10_turns_78 : decode cX10_turns 78 = .ok (.aload_n 0, 1) := by decide +kernel
theorem dX10_turns_79 : decode cX10_turns 79 = .ok (.getfield 9, 3) := by decide +kernel
theorem dX10_turns_82 : decode cX10_turns 82 = .ok (.if_icmp .ge 49, 3) := by decide +kernel
theorem dX10_turns_85 : decode cX10_turns 85 = .ok (.aload_n 0, 1) := by decide +kernel
theorem dX10_turns_86 : decode cX10_turns 86 = .ok (.iload 10, 2) := by decide +kernel
theorem dX10_turns_88 : decode cX10_turns 88 = .ok (.aload_n 0, 1) := by decide +kernel
theorem dX10_turns_89 : decode cX10_turns 89 = .ok (.getfield 9, 3) := by decide +kernel
theorem dX10_turns_92 : decode cX10_turns 92 = .ok (.iload 9, 2) := by decide +kernel
theorem dX10_turns_94 : decode cX10_turns 94 = .ok (.isub, 1) := by decide +kernel
theorem dX10_turns_95 : decode cX10_turns 95 = .ok (.if_icmp .ge 7, 3) := by decide +kernel
theorem dX10_turns_98 : decode cX10_turns 98 = .ok (.lload_n 1, 1) := by decide +kernel
theorem dX10_turns_99 : decode cX10_turns 99 = .ok (.goto 5, 3) := by decide +kernel
theorem dX10_turns_102 : decode cX10_turns 102 = .ok (.lload 5, 2) := by decide +kernel
theorem dX10_turns_104 : decode cX10_turns 104 = .ok (.iload 10, 2) := by decide +kernel
theorem dX10_turns_106 : decode cX10_turns 106 = .ok (.aload_n 0, 1) := by decide +kernel
theorem dX10_turns_107 : decode cX10_turns 107 = .ok (.getfield 9, 3) := by decide +kernel
theorem dX10_turns_110 : decode cX10_turns 110 = .ok (.iload 9, 2) := by decide +kernel
theorem dX10_turns_112 : decode cX10_turns 112 = .ok (.isub, 1) := by decide +kernel
theorem dX10_turns_113 : decode cX10_turns 113 = .ok (.if_icmp .ge 7, 3) := by decide +kernel
theorem dX10_turns_116 : decode cX10_turns 116 = .ok (.lload_n 3, 1) := by decide +kernel
theorem dX10_turns_117 : decode cX10_turns 117 = .ok (.goto 5, 3) := by decide +kernel
theorem dX10_turns_120 : decode cX10_turns 120 = .ok (.lload 7, 2) := by decide +kernel
theorem dX10_turns_122 : decode cX10_turns 122 = .ok (.invokevirtual 122, 3) := by decide +kernel
theorem dX10_turns_125 : decode cX10_turns 125 = .ok (.iinc 10 1, 3) := by decide +kernel
theorem dX10_turns_128 : decode cX10_turns 128 = .ok (.goto (-52), 3) := by decide +kernel
theorem dX10_turns_131 : decode cX10_turns 131 = .ok (.iconst 0, 1) := by decide +kernel
theorem dX10_turns_132 : decode cX10_turns 132 = .ok (.istore 10, 2) := by decide +kernel
theorem dX10_turns_134 : decode cX10_turns 134 = .ok (.iload 10, 2) := by decide +kernel
theorem dX10_turns_136 : decode cX10_turns 136 = .ok (.aload_n 0, 1) := by decide +kernel
theorem dX10_turns_137 : decode cX10_turns 137 = .ok (.getfield 9, 3) := by decide +kernel
theorem dX10_turns_140 : decode cX10_turns 140 = .ok (.if_icmp .gt 26, 3) := by decide +kernel
theorem dX10_turns_143 : decode cX10_turns 143 = .ok (.aload_n 0, 1) := by decide +kernel
theorem dX10_turns_144 : decode cX10_turns 144 = .ok (.getfield 35, 3) := by decide +kernel
theorem dX10_turns_147 : decode cX10_turns 147 = .ok (.iload 10, 2) := by decide +kernel
theorem dX10_turns_149 : decode cX10_turns 149 = .ok (.dup2, 1) := by decide +kernel
theorem dX10_turns_150 : decode cX10_turns 150 = .ok (.laload, 1) := by decide +kernel
theorem dX10_turns_151 : decode cX10_turns 151 = .ok (.aload_n 0, 1) := by decide +kernel
theorem dX10_turns_152 : decode cX10_turns 152 = .ok (.getfield 38, 3) := by decide +kernel
theorem dX10_turns_155 : decode cX10_turns 155 = .ok (.iload 10, 2) := by decide +kernel
theorem dX10_turns_157 : decode cX10_turns 157 = .ok (.laload, 1) := by decide +kernel
theorem dX10_turns_158 : decode cX10_turns 158 = .ok (.ladd, 1) := by decide +kernel
theorem dX10_turns_159 : decode cX10_turns 159 = .ok (.lastore, 1) := by decide +kernel
theorem dX10_turns_160 : decode cX10_turns 160 = .ok (.iinc 10 1, 3) := by decide +kernel
theorem dX10_turns_163 : decode cX10_turns 163 = .ok (.goto (-29), 3) := by decide +kernel
theorem dX10_turns_166 : decode cX10_turns 166 = .ok (.iinc 9 1, 3) := by decide +kernel
theorem dX10_turns_169 : decode cX10_turns 169 = .ok (.goto (-143), 3) := by decide +kernel
theorem dX10_turns_172 : decode cX10_turns 172 = .ok (.return_, 1) := by decide +kernel
theorem dX10_becomesTurned_0 : decode cX10_becomesTurned 0 = .ok (.iconst 0, 1) := by decide +kernel
theorem dX10_becomesTurned_1 : decode cX10_becomesTurned 1 = .ok (.istore_n 1, 1) := by decide +kernel
theorem dX10_becomesTurned_2 : decode cX10_becomesTurned 2 = .ok (.iload_n 1, 1) := by decide +kernel
theorem dX10_becomesTurned_3 : decode cX10_becomesTurned 3 = .ok (.aload_n 0, 1) := by decide +kernel
theorem dX10_becomesTurned_4 : decode cX10_becomesTurned 4 = .ok (.getfield 9, 3) := by decide +kernel
theorem dX10_becomesTurned_7 : decode cX10_becomesTurned 7 = .ok (.if_icmp .gt 29, 3) := by decide +kernel
theorem dX10_becomesTurned_10 : decode cX10_becomesTurned 10 = .ok (.aload_n 0, 1) := by decide +kernel
theorem dX10_becomesTurned_11 : decode cX10_becomesTurned 11 = .ok (.getfield 35, 3) := by decide +kernel
theorem dX10_becomesTurned_14 : decode cX10_becomesTurned 14 = .ok (.iload_n 1, 1) := by decide +kernel
theorem dX10_becomesTurned_15 : decode cX10_becomesTurned 15 = .ok (.laload, 1) := by decide +kernel
theorem dX10_becomesTurned_16 : decode cX10_becomesTurned 16 = .ok (.ldc2_w 108, 3) := by decide +kernel
theorem dX10_becomesTurned_19 : decode cX10_becomesTurned 19 = .ok (.ldc2_w 110, 3) := by decide +kernel
theorem dX10_becomesTurned_22 : decode cX10_becomesTurned 22 = .ok (.invokestatic 96, 3) := by decide +kernel
theorem dX10_becomesTurned_25 : decode cX10_becomesTurned 25 = .ok (.ifCond .ne 5, 3) := by decide +kernel
theorem dX10_becomesTurned_28 : decode cX10_becomesTurned 28 = .ok (.iconst 0, 1) := by decide +kernel
theorem dX10_becomesTurned_29 : decode cX10_becomesTurned 29 = .ok (.ireturn, 1) := by decide +kernel
theorem dX10_becomesTurned_30 : decode cX10_becomesTurned 30 = .ok (.iinc 1 1, 3) := by decide +kernel
theorem dX10_becomesTurned_33 : decode cX10_becomesTurned 33 = .ok (.goto (-31), 3) := by decide +kernel
theorem dX10_becomesTurned_36 : decode cX10_becomesTurned 36 = .ok (.iconst 0, 1) := by decide +kernel
theorem dX10_becomesTurned_37 : decode cX10_becomesTurned 37 = .ok (.istore_n 1, 1) := by decide +kernel
theorem dX10_becomesTurned_38 : decode cX10_becomesTurned 38 = .ok (.iload_n 1, 1) := by decide +kernel
theorem dX10_becomesTurned_39 : decode cX10_becomesTurned 39 = .ok (.aload_n 0, 1) := by decide +kernel
theorem dX10_becomesTurned_40 : decode cX10_becomesTurned 40 = .ok (.getfield 9, 3) := by decide +kernel
theorem dX10_becomesTurned_43 : decode cX10_becomesTurned 43 = .ok (.if_icmp .gt 21, 3) := by decide +kernel
theorem dX10_becomesTurned_46 : decode cX10_becomesTurned 46 = .ok (.aload_n 0, 1) := by decide +kernel
theorem dX10_becomesTurned_47 : decode cX10_becomesTurned 47 = .ok (.getfield 15, 3) := by decide +kernel
theorem dX10_becomesTurned_50 : decode cX10_becomesTurned 50 = .ok (.iload_n 1, 1) := by decide +kernel
theorem dX10_becomesTurned_51 : decode cX10_becomesTurned 51 = .ok (.aload_n 0, 1) := by decide +kernel
theorem dX10_becomesTurned_52 : decode cX10_becomesTurned 52 = .ok (.getfield 35, 3) := by decide +kernel
theorem dX10_becomesTurned_55 : decode cX10_becomesTurned 55 = .ok (.iload_n 1, 1) := by decide +kernel
theorem dX10_becomesTurned_56 : decode cX10_becomesTurned 56 = .ok (.laload, 1) := by decide +kernel
theorem dX10_becomesTurned_57 : decode cX10_becomesTurned 57 = .ok (.lastore, 1) := by decide +kernel
theorem dX10_becomesTurned_58 : decode cX10_becomesTurned 58 = .ok (.iinc 1 1, 3) := by decide +kernel
theorem dX10_becomesTurned_61 : decode cX10_becomesTurned 61 = .ok (.goto (-23), 3) := by decide +kernel
theorem dX10_becomesTurned_64 : decode cX10_becomesTurned 64 = .ok (.iconst 1, 1) := by decide +kernel
theorem dX10_becomesTurned_65 : decode cX10_becomesTurned 65 = .ok (.ireturn, 1) := by decide +kernel
theorem dX10_moves_0 : decode cX10_moves 0 = .ok (.iload_n 1, 1) := by decide +kernel
theorem dX10_moves_1 : decode cX10_moves 1 = .ok (.tableswitch 79 0 3 #[31, 42, 55, 66], 31) := by decide +kernel
theorem dX10_moves_32 : decode cX10_moves 32 = .ok (.aload_n 0, 1) := by decide +kernel
theorem dX10_moves_33 : decode cX10_moves 33 = .ok (.lconst 1, 1) := by decide +kernel
theorem dX10_moves_34 : decode cX10_moves 34 = .ok (.lconst 1, 1) := by decide +kernel
theorem dX10_moves_35 : decode cX10_moves 35 = .ok (.lconst 0, 1) := by decide +kernel
theorem dX10_moves_36 : decode cX10_moves 36 = .ok (.lconst 1, 1) := by decide +kernel
theorem dX10_moves_37 : decode cX10_moves 37 = .ok (.invokevirtual 126, 3) := by decide +kernel
theorem dX10_moves_40 : decode cX10_moves 40 = .ok (.goto 69, 3) := by decide +kernel
theorem dX10_moves_43 : decode cX10_moves 43 = .ok (.aload_n 0, 1) := by decide +kernel
theorem dX10_moves_44 : decode cX10_moves 44 = .ok (.lconst 1, 1) := by decide +kernel
theorem dX10_moves_45 : decode cX10_moves 45 = .ok (.ldc2_w 130, 3) := by decide +kernel
theorem dX10_moves_48 : decode cX10_moves 48 = .ok (.lconst 0, 1) := by decide +kernel
theorem dX10_moves_49 : decode cX10_moves 49 = .ok (.lconst 1, 1) := by decide +kernel
theorem dX10_moves_50 : decode cX10_moves 50 = .ok (.invokevirtual 126, 3) := by decide +kernel
theorem dX10_moves_53 : decode cX10_moves 53 = .ok (.goto 56, 3) := by decide +kernel
theorem dX10_moves_56 : decode cX10_moves 56 = .ok (.aload_n 0, 1) := by decide +kernel
theorem dX10_moves_57 : decode cX10_moves 57 = .ok (.lconst 0, 1) := by decide +kernel
theorem dX10_moves_58 : decode cX10_moves 58 = .ok (.lconst 1, 1) := by decide +kernel
theorem dX10_moves_59 : decode cX10_moves 59 = .ok (.lconst 1, 1) := by decide +kernel
theorem dX10_moves_60 : decode cX10_moves 60 = .ok (.lconst 0, 1) := by decide +kernel
theorem dX10_moves_61 : decode cX10_moves 61 = .ok (.invokevirtual 126, 3) := by decide +kernel
theorem dX10_moves_64 : decode cX10_moves 64 = .ok (.goto 45, 3) := by decide +kernel
theorem dX10_moves_67 : decode cX10_moves 67 = .ok (.aload_n 0, 1) := by decide +kernel
theorem dX10_moves_68 : decode cX10_moves 68 = .ok (.ldc2_w 130, 3) := by decide +kernel
theorem dX10_moves_71 : decode cX10_moves 71 = .ok (.lconst 0, 1) := by decide +kernel
theorem dX10_moves_72 : decode cX10_moves 72 = .ok (.lconst 0, 1) := by decide +kernel
theorem dX10_moves_73 : decode cX10_moves 73 = .ok (.lconst 1, 1) := by decide +kernel
theorem dX10_moves_74 : decode cX10_moves 74 = .ok (.invokevirtual 126, 3) := by decide +kernel
theorem dX10_moves_77 : decode cX10_moves 77 = .ok (.goto 32, 3) := by decide +kernel
theorem dX10_moves_80 : decode cX10_moves 80 = .ok (.iconst 0, 1) := by decide +kernel
theorem dX10_moves_81 : decode cX10_moves 81 = .ok (.istore_n 2, 1) := by decide +kernel
theorem dX10_moves_82 : decode cX10_moves 82 = .ok (.iload_n 2, 1) := by decide +kernel
theorem dX10_moves_83 : decode cX10_moves 83 = .ok (.aload_n 0, 1) := by decide +kernel
theorem dX10_moves_84 : decode cX10_moves 84 = .ok (.getfield 9, 3) := by decide +kernel
theorem dX10_moves_87 : decode cX10_moves 87 = .ok (.if_icmp .gt 22, 3) := by decide +kernel
theorem dX10_moves_90 : decode cX10_moves 90 = .ok (.aload_n 0, 1) := by decide +kernel
theorem dX10_moves_91 : decode cX10_moves 91 = .ok (.getfield 35, 3) := by decide +kernel
theorem dX10_moves_94 : decode cX10_moves 94 = .ok (.iload_n 2, 1) := by decide +kernel
theorem dX10_moves_95 : decode cX10_moves 95 = .ok (.aload_n 0, 1) := by decide +kernel
theorem dX10_moves_96 : decode cX10_moves 96 = .ok (.getfield 15, 3) := by decide +kernel
theorem dX10_moves_99 : decode cX10_moves 99 = .ok (.iload_n 2, 1) := by decide +kernel
theorem dX10_moves_100 : decode cX10_moves 100 = .ok (.laload, 1) := by decide +kernel
theorem dX10_moves_101 : decode cX10_moves 101 = .ok (.lneg, 1) := by decide +kernel
theorem dX10_moves_102 : decode cX10_moves 102 = .ok (.lastore, 1) := by decide +kernel
theorem dX10_moves_103 : decode cX10_moves 103 = .ok (.iinc 2 1, 3) := by decide +kernel
theorem dX10_moves_106 : decode cX10_moves 106 = .ok (.goto (-24), 3) := by decide +kernel
theorem dX10_moves_109 : decode cX10_moves 109 = .ok (.aload_n 0, 1) := by decide +kernel
theorem dX10_moves_110 : decode cX10_moves 110 = .ok (.invokevirtual 132, 3) := by decide +kernel
theorem dX10_moves_113 : decode cX10_moves 113 = .ok (.ireturn, 1) := by decide +kernel
theorem dX10_move_0 : decode cX10_move 0 = .ok (.iload_n 1, 1) := by decide +kernel
theorem dX10_move_1 : decode cX10_move 1 = .ok (.i2l, 1) := by decide +kernel
theorem dX10_move_2 : decode cX10_move 2 = .ok (.lconst 0, 1) := by decide +kernel
theorem dX10_move_3 : decode cX10_move 3 = .ok (.ldc2_w 102, 3) := by decide +kernel
theorem dX10_move_6 : decode cX10_move 6 = .ok (.invokestatic 96, 3) := by decide +kernel
theorem dX10_move_9 : decode cX10_move 9 = .ok (.ifCond .ne 5, 3) := by decide +kernel
theorem dX10_move_12 : decode cX10_move 12 = .ok (.iconst (-1), 1) := by decide +kernel
theorem dX10_move_13 : decode cX10_move 13 = .ok (.ireturn, 1) := by decide +kernel
theorem dX10_move_14 : decode cX10_move 14 = .ok (.aload_n 0, 1) := by decide +kernel
theorem dX10_move_15 : decode cX10_move 15 = .ok (.iload_n 1, 1) := by decide +kernel
theorem dX10_move_16 : decode cX10_move 16 = .ok (.invokevirtual 136, 3) := by decide +kernel
theorem dX10_move_19 : decode cX10_move 19 = .ok (.ifCond .eq 7, 3) := by decide +kernel
theorem dX10_move_22 : decode cX10_move 22 = .ok (.iconst 1, 1) := by decide +kernel
theorem dX10_move_23 : decode cX10_move 23 = .ok (.goto 5, 3) := by decide +kernel
theorem dX10_move_26 : decode cX10_move 26 = .ok (.bipush (-3), 2) := by decide +kernel
theorem dX10_move_28 : decode cX10_move 28 = .ok (.ireturn, 1) := by decide +kernel
theorem dX10_turn_0 : decode cX10_turn 0 = .ok (.iload_n 1, 1) := by decide +kernel
theorem dX10_turn_1 : decode cX10_turn 1 = .ok (.i2l, 1) := by decide +kernel
theorem dX10_turn_2 : decode cX10_turn 2 = .ok (.ldc2_w 139, 3) := by decide +kernel
theorem dX10_turn_5 : decode cX10_turn 5 = .ok (.ldc2_w 141, 3) := by decide +kernel
theorem dX10_turn_8 : decode cX10_turn 8 = .ok (.invokestatic 96, 3) := by decide +kernel
theorem dX10_turn_11 : decode cX10_turn 11 = .ok (.ifCond .eq 46, 3) := by decide +kernel
theorem dX10_turn_14 : decode cX10_turn 14 = .ok (.iload_n 2, 1) := by decide +kernel
theorem dX10_turn_15 : decode cX10_turn 15 = .ok (.i2l, 1) := by decide +kernel
theorem dX10_turn_16 : decode cX10_turn 16 = .ok (.ldc2_w 139, 3) := by decide +kernel
theorem dX10_turn_19 : decode cX10_turn 19 = .ok (.ldc2_w 141, 3) := by decide +kernel
theorem dX10_turn_22 : decode cX10_turn 22 = .ok (.invokestatic 96, 3) := by decide +kernel
theorem dX10_turn_25 : decode cX10_turn 25 = .ok (.ifCond .eq 32, 3) := by decide +kernel
theorem dX10_turn_28 : decode cX10_turn 28 = .ok (.iload_n 3, 1) := by decide +kernel
theorem dX10_turn_29 : decode cX10_turn 29 = .ok (.i2l, 1) := by decide +kernel
theorem dX10_turn_30 : decode cX10_turn 30 = .ok (.ldc2_w 139, 3) := by decide +kernel
theorem dX10_turn_33 : decode cX10_turn 33 = .ok (.ldc2_w 141, 3) := by decide +kernel
theorem dX10_turn_36 : decode cX10_turn 36 = .ok (.invokestatic 96, 3) := by decide +kernel
theorem dX10_turn_39 : decode cX10_turn 39 = .ok (.ifCond .eq 18, 3) := by decide +kernel
theorem dX10_turn_42 : decode cX10_turn 42 = .ok (.iload 4, 2) := by decide +kernel
theorem dX10_turn_44 : decode cX10_turn 44 = .ok (.i2l, 1) := by decide +kernel
theorem dX10_turn_45 : decode cX10_turn 45 = .ok (.ldc2_w 139, 3) := by decide +kernel
theorem dX10_turn_48 : decode cX10_turn 48 = .ok (.ldc2_w 141, 3) := by decide +kernel
theorem dX10_turn_51 : decode cX10_turn 51 = .ok (.invokestatic 96, 3) := by decide +kernel
theorem dX10_turn_54 : decode cX10_turn 54 = .ok (.ifCond .ne 6, 3) := by decide +kernel
theorem dX10_turn_57 : decode cX10_turn 57 = .ok (.bipush (-2), 2) := by decide +kernel
theorem dX10_turn_59 : decode cX10_turn 59 = .ok (.ireturn, 1) := by decide +kernel
theorem dX10_turn_60 : decode cX10_turn 60 = .ok (.aload_n 0, 1) := by decide +kernel
theorem dX10_turn_61 : decode cX10_turn 61 = .ok (.iload_n 1, 1) := by decide +kernel
theorem dX10_turn_62 : decode cX10_turn 62 = .ok (.i2l, 1) := by decide +kernel
theorem dX10_turn_63 : decode cX10_turn 63 = .ok (.iload_n 2, 1) := by decide +kernel
theorem dX10_turn_64 : decode cX10_turn 64 = .ok (.i2l, 1) := by decide +kernel
theorem dX10_turn_65 : decode cX10_turn 65 = .ok (.iload_n 3, 1) := by decide +kernel
theorem dX10_turn_66 : decode cX10_turn 66 = .ok (.i2l, 1) := by decide +kernel
theorem dX10_turn_67 : decode cX10_turn 67 = .ok (.iload 4, 2) := by decide +kernel
theorem dX10_turn_69 : decode cX10_turn 69 = .ok (.i2l, 1) := by decide +kernel
theorem dX10_turn_70 : decode cX10_turn 70 = .ok (.invokevirtual 126, 3) := by decide +kernel
theorem dX10_turn_73 : decode cX10_turn 73 = .ok (.aload_n 0, 1) := by decide +kernel
theorem dX10_turn_74 : decode cX10_turn 74 = .ok (.invokevirtual 132, 3) := by decide +kernel
theorem dX10_turn_77 : decode cX10_turn 77 = .ok (.ifCond .eq 7, 3) := by decide +kernel
theorem dX10_turn_80 : decode cX10_turn 80 = .ok (.iconst 1, 1) := by decide +kernel
theorem dX10_turn_81 : decode cX10_turn 81 = .ok (.goto 5, 3) := by decide +kernel
theorem dX10_turn_84 : decode cX10_turn 84 = .ok (.bipush (-3), 2) := by decide +kernel
theorem dX10_turn_86 : decode cX10_turn 86 = .ok (.ireturn, 1) := by decide +kernel
theorem dX10_tellsAnswers_0 : decode cX10_tellsAnswers 0 = .ok (.aload_n 0, 1) := by decide +kernel
theorem dX10_tellsAnswers_1 : decode cX10_tellsAnswers 1 = .ok (.iconst 0, 1) := by decide +kernel
theorem dX10_tellsAnswers_2 : decode cX10_tellsAnswers 2 = .ok (.putfield 143, 3) := by decide +kernel
theorem dX10_tellsAnswers_5 : decode cX10_tellsAnswers 5 = .ok (.aload_n 0, 1) := by decide +kernel
theorem dX10_tellsAnswers_6 : decode cX10_tellsAnswers 6 = .ok (.getfield 22, 3) := by decide +kernel
theorem dX10_tellsAnswers_9 : decode cX10_tellsAnswers 9 = .ok (.ineg, 1) := by decide +kernel
theorem dX10_tellsAnswers_10 : decode cX10_tellsAnswers 10 = .ok (.istore_n 1, 1) := by decide +kernel
theorem dX10_tellsAnswers_11 : decode cX10_tellsAnswers 11 = .ok (.iload_n 1, 1) := by decide +kernel
theorem dX10_tellsAnswers_12 : decode cX10_tellsAnswers 12 = .ok (.aload_n 0, 1) := by decide +kernel
theorem dX10_tellsAnswers_13 : decode cX10_tellsAnswers 13 = .ok (.getfield 22, 3) := by decide +kernel
theorem dX10_tellsAnswers_16 : decode cX10_tellsAnswers 16 = .ok (.if_icmp .gt 82, 3) := by decide +kernel
theorem dX10_tellsAnswers_19 : decode cX10_tellsAnswers 19 = .ok (.aload_n 0, 1) := by decide +kernel
theorem dX10_tellsAnswers_20 : decode cX10_tellsAnswers 20 = .ok (.getfield 22, 3) := by decide +kernel
theorem dX10_tellsAnswers_23 : decode cX10_tellsAnswers 23 = .ok (.ineg, 1) := by decide +kernel
theorem dX10_tellsAnswers_24 : decode cX10_tellsAnswers 24 = .ok (.istore_n 2, 1) := by decide +kernel
theorem dX10_tellsAnswers_25 : decode cX10_tellsAnswers 25 = .ok (.iload_n 2, 1) := by decide +kernel
theorem dX10_tellsAnswers_26 : decode cX10_tellsAnswers 26 = .ok (.aload_n 0, 1) := by decide +kernel
theorem dX10_tellsAnswers_27 : decode cX10_tellsAnswers 27 = .ok (.getfield 22, 3) := by decide +kernel
theorem dX10_tellsAnswers_30 : decode cX10_tellsAnswers 30 = .ok (.if_icmp .gt 62, 3) := by decide +kernel
theorem dX10_tellsAnswers_33 : decode cX10_tellsAnswers 33 = .ok (.aload_n 0, 1) := by decide +kernel
theorem dX10_tellsAnswers_34 : decode cX10_tellsAnswers 34 = .ok (.iload_n 1, 1) := by decide +kernel
theorem dX10_tellsAnswers_35 : decode cX10_tellsAnswers 35 = .ok (.i2l, 1) := by decide +kernel
theorem dX10_tellsAnswers_36 : decode cX10_tellsAnswers 36 = .ok (.iload_n 2, 1) := by decide +kernel
theorem dX10_tellsAnswers_37 : decode cX10_tellsAnswers 37 = .ok (.i2l, 1) := by decide +kernel
theorem dX10_tellsAnswers_38 : decode cX10_tellsAnswers 38 = .ok (.invokevirtual 146, 3) := by decide +kernel
theorem dX10_tellsAnswers_41 : decode cX10_tellsAnswers 41 = .ok (.aload_n 0, 1) := by decide +kernel
theorem dX10_tellsAnswers_42 : decode cX10_tellsAnswers 42 = .ok (.getfield 19, 3) := by decide +kernel
theorem dX10_tellsAnswers_45 : decode cX10_tellsAnswers 45 = .ok (.i2l, 1) := by decide +kernel
theorem dX10_tellsAnswers_46 : decode cX10_tellsAnswers 46 = .ok (.lcmp, 1) := by decide +kernel
theorem dX10_tellsAnswers_47 : decode cX10_tellsAnswers 47 = .ok (.ifCond .ne 39, 3) := by decide +kernel
theorem dX10_tellsAnswers_50 : decode cX10_tellsAnswers 50 = .ok (.aload_n 0, 1) := by decide +kernel
theorem dX10_tellsAnswers_51 : decode cX10_tellsAnswers 51 = .ok (.getfield 41, 3) := by decide +kernel
theorem dX10_tellsAnswers_54 : decode cX10_tellsAnswers 54 = .ok (.iconst 2, 1) := by decide +kernel
theorem dX10_tellsAnswers_55 : decode cX10_tellsAnswers 55 = .ok (.aload_n 0, 1) := by decide +kernel
theorem dX10_tellsAnswers_56 : decode cX10_tellsAnswers 56 = .ok (.getfield 143, 3) := by decide +kernel
theorem dX10_tellsAnswers_59 : decode cX10_tellsAnswers 59 = .ok (.imul, 1) := by decide +kernel
theorem dX10_tellsAnswers_60 : decode cX10_tellsAnswers 60 = .ok (.iload_n 1, 1) := by decide +kernel
theorem dX10_tellsAnswers_61 : decode cX10_tellsAnswers 61 = .ok (.iastore, 1) := by decide +kernel
theorem dX10_tellsAnswers_62 : decode cX10_tellsAnswers 62 = .ok (.aload_n 0, 1) := by decide +kernel
theorem dX10_tellsAnswers_63 : decode cX10_tellsAnswers 63 = .ok (.getfield 41, 3) := by decide +kernel
theorem dX10_tellsAnswers_66 : decode cX10_tellsAnswers 66 = .ok (.iconst 2, 1) := by decide +kernel
theorem dX10_tellsAnswers_67 : decode cX10_tellsAnswers 67 = .ok (.aload_n 0, 1) := by decide +kernel
theorem dX10_tellsAnswers_68 : decode cX10_tellsAnswers 68 = .ok (.getfield 143, 3) := by decide +kernel
theorem dX10_tellsAnswers_71 : decode cX10_tellsAnswers 71 = .ok (.imul, 1) := by decide +kernel
theorem dX10_tellsAnswers_72 : decode cX10_tellsAnswers 72 = .ok (.iconst 1, 1) := by decide +kernel
theorem dX10_tellsAnswers_73 : decode cX10_tellsAnswers 73 = .ok (.iadd, 1) := by decide +kernel
theorem dX10_tellsAnswers_74 : decode cX10_tellsAnswers 74 = .ok (.iload_n 2, 1) := by decide +kernel
theorem dX10_tellsAnswers_75 : decode cX10_tellsAnswers 75 = .ok (.iastore, 1) := by decide +kernel
theorem dX10_tellsAnswers_76 : decode cX10_tellsAnswers 76 = .ok (.aload_n 0, 1) := by decide +kernel
theorem dX10_tellsAnswers_77 : decode cX10_tellsAnswers 77 = .ok (.dup, 1) := by decide +kernel
theorem dX10_tellsAnswers_78 : decode cX10_tellsAnswers 78 = .ok (.getfield 143, 3) := by decide +kernel
theorem dX10_tellsAnswers_81 : decode cX10_tellsAnswers 81 = .ok (.iconst 1, 1) := by decide +kernel
theorem dX10_tellsAnswers_82 : decode cX10_tellsAnswers 82 = .ok (.iadd, 1) := by decide +kernel
theorem dX10_tellsAnswers_83 : decode cX10_tellsAnswers 83 = .ok (.putfield 143, 3) := by decide +kernel
theorem dX10_tellsAnswers_86 : decode cX10_tellsAnswers 86 = .ok (.iinc 2 1, 3) := by decide +kernel
theorem dX10_tellsAnswers_89 : decode cX10_tellsAnswers 89 = .ok (.goto (-64), 3) := by decide +kernel
theorem dX10_tellsAnswers_92 : decode cX10_tellsAnswers 92 = .ok (.iinc 1 1, 3) := by decide +kernel
theorem dX10_tellsAnswers_95 : decode cX10_tellsAnswers 95 = .ok (.goto (-84), 3) := by decide +kernel
theorem dX10_tellsAnswers_98 : decode cX10_tellsAnswers 98 = .ok (.return_, 1) := by decide +kernel
theorem dX10_tellsUnits_0 : decode cX10_tellsUnits 0 = .ok (.aload_n 0, 1) := by decide +kernel
theorem dX10_tellsUnits_1 : decode cX10_tellsUnits 1 = .ok (.iconst 0, 1) := by decide +kernel
theorem dX10_tellsUnits_2 : decode cX10_tellsUnits 2 = .ok (.putfield 150, 3) := by decide +kernel
theorem dX10_tellsUnits_5 : decode cX10_tellsUnits 5 = .ok (.iconst 0, 1) := by decide +kernel
theorem dX10_tellsUnits_6 : decode cX10_tellsUnits 6 = .ok (.istore_n 1, 1) := by decide +kernel
theorem dX10_tellsUnits_7 : decode cX10_tellsUnits 7 = .ok (.iload_n 1, 1) := by decide +kernel
theorem dX10_tellsUnits_8 : decode cX10_tellsUnits 8 = .ok (.sipush 625, 3) := by decide +kernel
theorem dX10_tellsUnits_11 : decode cX10_tellsUnits 11 = .ok (.if_icmp .ge 201, 3) := by decide +kernel
theorem dX10_tellsUnits_14 : decode cX10_tellsUnits 14 = .ok (.iload_n 1, 1) := by decide +kernel
theorem dX10_tellsUnits_15 : decode cX10_tellsUnits 15 = .ok (.bipush 125, 2) := by decide +kernel
theorem dX10_tellsUnits_17 : decode cX10_tellsUnits 17 = .ok (.idiv, 1) := by decide +kernel
theorem dX10_tellsUnits_18 : decode cX10_tellsUnits 18 = .ok (.iconst 2, 1) := by decide +kernel
theorem dX10_tellsUnits_19 : decode cX10_tellsUnits 19 = .ok (.isub, 1) := by decide +kernel
theorem dX10_tellsUnits_20 : decode cX10_tellsUnits 20 = .ok (.istore_n 2, 1) := by decide +kernel
theorem dX10_tellsUnits_21 : decode cX10_tellsUnits 21 = .ok (.iload_n 1, 1) := by decide +kernel
theorem dX10_tellsUnits_22 : decode cX10_tellsUnits 22 = .ok (.bipush 25, 2) := by decide +kernel
theorem dX10_tellsUnits_24 : decode cX10_tellsUnits 24 = .ok (.idiv, 1) := by decide +kernel
theorem dX10_tellsUnits_25 : decode cX10_tellsUnits 25 = .ok (.iconst 5, 1) := by decide +kernel
theorem dX10_tellsUnits_26 : decode cX10_tellsUnits 26 = .ok (.irem, 1) := by decide +kernel
theorem dX10_tellsUnits_27 : decode cX10_tellsUnits 27 = .ok (.iconst 2, 1) := by decide +kernel
theorem dX10_tellsUnits_28 : decode cX10_tellsUnits 28 = .ok (.isub, 1) := by decide +kernel
theorem dX10_tellsUnits_29 : decode cX10_tellsUnits 29 = .ok (.istore_n 3, 1) := by decide +kernel
theorem dX10_tellsUnits_30 : decode cX10_tellsUnits 30 = .ok (.iload_n 1, 1) := by decide +kernel
theorem dX10_tellsUnits_31 : decode cX10_tellsUnits 31 = .ok (.iconst 5, 1) := by decide +kernel
theorem dX10_tellsUnits_32 : decode cX10_tellsUnits 32 = .ok (.idiv, 1) := by decide +kernel
theorem dX10_tellsUnits_33 : decode cX10_tellsUnits 33 = .ok (.iconst 5, 1) := by decide +kernel
theorem dX10_tellsUnits_34 : decode cX10_tellsUnits 34 = .ok (.irem, 1) := by decide +kernel
theorem dX10_tellsUnits_35 : decode cX10_tellsUnits 35 = .ok (.iconst 2, 1) := by decide +kernel
theorem dX10_tellsUnits_36 : decode cX10_tellsUnits 36 = .ok (.isub, 1) := by decide +kernel
theorem dX10_tellsUnits_37 : decode cX10_tellsUnits 37 = .ok (.istore 4, 2) := by decide +kernel
theorem dX10_tellsUnits_39 : decode cX10_tellsUnits 39 = .ok (.iload_n 1, 1) := by decide +kernel
theorem dX10_tellsUnits_40 : decode cX10_tellsUnits 40 = .ok (.iconst 5, 1) := by decide +kernel
theorem dX10_tellsUnits_41 : decode cX10_tellsUnits 41 = .ok (.irem, 1) := by decide +kernel
theorem dX10_tellsUnits_42 : decode cX10_tellsUnits 42 = .ok (.iconst 2, 1) := by decide +kernel
theorem dX10_tellsUnits_43 : decode cX10_tellsUnits 43 = .ok (.isub, 1) := by decide +kernel
theorem dX10_tellsUnits_44 : decode cX10_tellsUnits 44 = .ok (.istore 5, 2) := by decide +kernel
theorem dX10_tellsUnits_46 : decode cX10_tellsUnits 46 = .ok (.iload_n 2, 1) := by decide +kernel
theorem dX10_tellsUnits_47 : decode cX10_tellsUnits 47 = .ok (.iload 5, 2) := by decide +kernel
theorem dX10_tellsUnits_49 : decode cX10_tellsUnits 49 = .ok (.imul, 1) := by decide +kernel
theorem dX10_tellsUnits_50 : decode cX10_tellsUnits 50 = .ok (.iload_n 3, 1) := by decide +kernel
theorem dX10_tellsUnits_51 : decode cX10_tellsUnits 51 = .ok (.iload 4, 2) := by decide +kernel
theorem dX10_tellsUnits_53 : decode cX10_tellsUnits 53 = .ok (.imul, 1) := by decide +kernel
theorem dX10_tellsUnits_54 : decode cX10_tellsUnits 54 = .ok (.isub, 1) := by decide +kernel
theorem dX10_tellsUnits_55 : decode cX10_tellsUnits 55 = .ok (.iconst 1, 1) := by decide +kernel
theorem dX10_tellsUnits_56 : decode cX10_tellsUnits 56 = .ok (.if_icmp .eq 16, 3) := by decide +kernel
theorem dX10_tellsUnits_59 : decode cX10_tellsUnits 59 = .ok (.iload_n 2, 1) := by decide +kernel
theorem dX10_tellsUnits_60 : decode cX10_tellsUnits 60 = .ok (.iload 5, 2) := by decide +kernel
theorem dX10_tellsUnits_62 : decode cX10_tellsUnits 62 = .ok (.imul, 1) := by decide +kernel
theorem dX10_tellsUnits_63 : decode cX10_tellsUnits 63 = .ok (.iload_n 3, 1) := by decide +kernel
theorem dX10_tellsUnits_64 : decode cX10_tellsUnits 64 = .ok (.iload 4, 2) := by decide +kernel
theorem dX10_tellsUnits_66 : decode cX10_tellsUnits 66 = .ok (.imul, 1) := by decide +kernel
theorem dX10_tellsUnits_67 : decode cX10_tellsUnits 67 = .ok (.isub, 1) := by decide +kernel
theorem dX10_tellsUnits_68 : decode cX10_tellsUnits 68 = .ok (.iconst (-1), 1) := by decide +kernel
theorem dX10_tellsUnits_69 : decode cX10_tellsUnits 69 = .ok (.if_icmp .ne 137, 3) := by decide +kernel
theorem dX10_tellsUnits_72 : decode cX10_tellsUnits 72 = .ok (.aload_n 0, 1) := by decide +kernel
theorem dX10_tellsUnits_73 : decode cX10_tellsUnits 73 = .ok (.iload_n 2, 1) := by decide +kernel
theorem dX10_tellsUnits_74 : decode cX10_tellsUnits 74 = .ok (.i2l, 1) := by decide +kernel
theorem dX10_tellsUnits_75 : decode cX10_tellsUnits 75 = .ok (.iload_n 3, 1) := by decide +kernel
theorem dX10_tellsUnits_76 : decode cX10_tellsUnits 76 = .ok (.i2l, 1) := by decide +kernel
theorem dX10_tellsUnits_77 : decode cX10_tellsUnits 77 = .ok (.iload 4, 2) := by decide +kernel
theorem dX10_tellsUnits_79 : decode cX10_tellsUnits 79 = .ok (.i2l, 1) := by decide +kernel
theorem dX10_tellsUnits_80 : decode cX10_tellsUnits 80 = .ok (.iload 5, 2) := by decide +kernel
theorem dX10_tellsUnits_82 : decode cX10_tellsUnits 82 = .ok (.i2l, 1) := by decide +kernel
theorem dX10_tellsUnits_83 : decode cX10_tellsUnits 83 = .ok (.invokevirtual 126, 3) := by decide +kernel
theorem dX10_tellsUnits_86 : decode cX10_tellsUnits 86 = .ok (.iconst 1, 1) := by decide +kernel
theorem dX10_tellsUnits_87 : decode cX10_tellsUnits 87 = .ok (.istore 6, 2) := by decide +kernel
theorem dX10_tellsUnits_89 : decode cX10_tellsUnits 89 = .ok (.iconst 0, 1) := by decide +kernel
theorem dX10_tellsUnits_90 : decode cX10_tellsUnits 90 = .ok (.istore 7, 2) := by decide +kernel
theorem dX10_tellsUnits_92 : decode cX10_tellsUnits 92 = .ok (.iload 7, 2) := by decide +kernel
theorem dX10_tellsUnits_94 : decode cX10_tellsUnits 94 = .ok (.aload_n 0, 1) := by decide +kernel
theorem dX10_tellsUnits_95 : decode cX10_tellsUnits 95 = .ok (.getfield 9, 3) := by decide +kernel
theorem dX10_tellsUnits_98 : decode cX10_tellsUnits 98 = .ok (.if_icmp .gt 37, 3) := by decide +kernel
theorem dX10_tellsUnits_101 : decode cX10_tellsUnits 101 = .ok (.iload 6, 2) := by decide +kernel
theorem dX10_tellsUnits_103 : decode cX10_tellsUnits 103 = .ok (.aload_n 0, 1) := by decide +kernel
theorem dX10_tellsUnits_104 : decode cX10_tellsUnits 104 = .ok (.getfield 35, 3) := by decide +kernel
theorem dX10_tellsUnits_107 : decode cX10_tellsUnits 107 = .ok (.iload 7, 2) := by decide +kernel
theorem dX10_tellsUnits_109 : decode cX10_tellsUnits 109 = .ok (.laload, 1) := by decide +kernel
theorem dX10_tellsUnits_110 : decode cX10_tellsUnits 110 = .ok (.aload_n 0, 1) := by decide +kernel
theorem dX10_tellsUnits_111 : decode cX10_tellsUnits 111 = .ok (.getfield 15, 3) := by decide +kernel
theorem dX10_tellsUnits_114 : decode cX10_tellsUnits 114 = .ok (.iload 7, 2) := by decide +kernel
theorem dX10_tellsUnits_116 : decode cX10_tellsUnits 116 = .ok (.laload, 1) := by decide +kernel
theorem dX10_tellsUnits_117 : decode cX10_tellsUnits 117 = .ok (.lcmp, 1) := by decide +kernel
theorem dX10_tellsUnits_118 : decode cX10_tellsUnits 118 = .ok (.ifCond .ne 7, 3) := by decide +kernel
theorem dX10_tellsUnits_121 : decode cX10_tellsUnits 121 = .ok (.iconst 1, 1) := by decide +kernel
theorem dX10_tellsUnits_122 : decode cX10_tellsUnits 122 = .ok (.goto 4, 3) := by decide +kernel
theorem dX10_tellsUnits_125 : decode cX10_tellsUnits 125 = .ok (.iconst 0, 1) := by decide +kernel
theorem dX10_tellsUnits_126 : decode cX10_tellsUnits 126 = .ok (.iand, 1) := by decide +kernel
theorem dX10_tellsUnits_127 : decode cX10_tellsUnits 127 = .ok (.istore 6, 2) := by decide +kernel
theorem dX10_tellsUnits_129 : decode cX10_tellsUnits 129 = .ok (.iinc 7 1, 3) := by decide +kernel
theorem dX10_tellsUnits_132 : decode cX10_tellsUnits 132 = .ok (.goto (-40), 3) := by decide +kernel
theorem dX10_tellsUnits_135 : decode cX10_tellsUnits 135 = .ok (.iload 6, 2) := by decide +kernel
theorem dX10_tellsUnits_137 : decode cX10_tellsUnits 137 = .ok (.ifCond .eq 69, 3) := by decide +kernel
theorem dX10_tellsUnits_140 : decode cX10_tellsUnits 140 = .ok (.aload_n 0, 1) := by decide +kernel
theorem dX10_tellsUnits_141 : decode cX10_tellsUnits 141 = .ok (.getfield 44, 3) := by decide +kernel
theorem dX10_tellsUnits_144 : decode cX10_tellsUnits 144 = .ok (.iconst 4, 1) := by decide +kernel
theorem dX10_tellsUnits_145 : decode cX10_tellsUnits 145 = .ok (.aload_n 0, 1) := by decide +kernel
theorem dX10_tellsUnits_146 : decode cX10_tellsUnits 146 = .ok (.getfield 150, 3) := by decide +kernel
theorem dX10_tellsUnits_149 : decode cX10_tellsUnits 149 = .ok (.imul, 1) := by decide +kernel
theorem dX10_tellsUnits_150 : decode cX10_tellsUnits 150 = .ok (.iload_n 2, 1) := by decide +kernel
theorem dX10_tellsUnits_151 : decode cX10_tellsUnits 151 = .ok (.iastore, 1) := by decide +kernel
theorem dX10_tellsUnits_152 : decode cX10_tellsUnits 152 = .ok (.aload_n 0, 1) := by decide +kernel
theorem dX10_tellsUnits_153 : decode cX10_tellsUnits 153 = .ok (.getfield 44, 3) := by decide +kernel
theorem dX10_tellsUnits_156 : decode cX10_tellsUnits 156 = .ok (.iconst 4, 1) := by decide +kernel
theorem dX10_tellsUnits_157 : decode cX10_tellsUnits 157 = .ok (.aload_n 0, 1) := by decide +kernel
theorem dX10_tellsUnits_158 : decode cX10_tellsUnits 158 = .ok (.getfield 150, 3) := by decide +kernel
theorem dX10_tellsUnits_161 : decode cX10_tellsUnits 161 = .ok (.imul, 1) := by decide +kernel
theorem dX10_tellsUnits_162 : decode cX10_tellsUnits 162 = .ok (.iconst 1, 1) := by decide +kernel
theorem dX10_tellsUnits_163 : decode cX10_tellsUnits 163 = .ok (.iadd, 1) := by decide +kernel
theorem dX10_tellsUnits_164 : decode cX10_tellsUnits 164 = .ok (.iload_n 3, 1) := by decide +kernel
theorem dX10_tellsUnits_165 : decode cX10_tellsUnits 165 = .ok (.iastore, 1) := by decide +kernel
theorem dX10_tellsUnits_166 : decode cX10_tellsUnits 166 = .ok (.aload_n 0, 1) := by decide +kernel
theorem dX10_tellsUnits_167 : decode cX10_tellsUnits 167 = .ok (.getfield 44, 3) := by decide +kernel
theorem dX10_tellsUnits_170 : decode cX10_tellsUnits 170 = .ok (.iconst 4, 1) := by decide +kernel
theorem dX10_tellsUnits_171 : decode cX10_tellsUnits 171 = .ok (.aload_n 0, 1) := by decide +kernel
theorem dX10_tellsUnits_172 : decode cX10_tellsUnits 172 = .ok (.getfield 150, 3) := by decide +kernel
theorem dX10_tellsUnits_175 : decode cX10_tellsUnits 175 = .ok (.imul, 1) := by decide +kernel
theorem dX10_tellsUnits_176 : decode cX10_tellsUnits 176 = .ok (.iconst 2, 1) := by decide +kernel
theorem dX10_tellsUnits_177 : decode cX10_tellsUnits 177 = .ok (.iadd, 1) := by decide +kernel
theorem dX10_tellsUnits_178 : decode cX10_tellsUnits 178 = .ok (.iload 4, 2) := by decide +kernel
theorem dX10_tellsUnits_180 : decode cX10_tellsUnits 180 = .ok (.iastore, 1) := by decide +kernel
theorem dX10_tellsUnits_181 : decode cX10_tellsUnits 181 = .ok (.aload_n 0, 1) := by decide +kernel
theorem dX10_tellsUnits_182 : decode cX10_tellsUnits 182 = .ok (.getfield 44, 3) := by decide +kernel
theorem dX10_tellsUnits_185 : decode cX10_tellsUnits 185 = .ok (.iconst 4, 1) := by decide +kernel
theorem dX10_tellsUnits_186 : decode cX10_tellsUnits 186 = .ok (.aload_n 0, 1) := by decide +kernel
theorem dX10_tellsUnits_187 : decode cX10_tellsUnits 187 = .ok (.getfield 150, 3) := by decide +kernel
theorem dX10_tellsUnits_190 : decode cX10_tellsUnits 190 = .ok (.imul, 1) := by decide +kernel
theorem dX10_tellsUnits_191 : decode cX10_tellsUnits 191 = .ok (.iconst 3, 1) := by decide +kernel
theorem dX10_tellsUnits_192 : decode cX10_tellsUnits 192 = .ok (.iadd, 1) := by decide +kernel
theorem dX10_tellsUnits_193 : decode cX10_tellsUnits 193 = .ok (.iload 5, 2) := by decide +kernel
theorem dX10_tellsUnits_195 : decode cX10_tellsUnits 195 = .ok (.iastore, 1) := by decide +kernel
theorem dX10_tellsUnits_196 : decode cX10_tellsUnits 196 = .ok (.aload_n 0, 1) := by decide +kernel
theorem dX10_tellsUnits_197 : decode cX10_tellsUnits 197 = .ok (.dup, 1) := by decide +kernel
theorem dX10_tellsUnits_198 : decode cX10_tellsUnits 198 = .ok (.getfield 150, 3) := by decide +kernel
theorem dX10_tellsUnits_201 : decode cX10_tellsUnits 201 = .ok (.iconst 1, 1) := by decide +kernel
theorem dX10_tellsUnits_202 : decode cX10_tellsUnits 202 = .ok (.iadd, 1) := by decide +kernel
theorem dX10_tellsUnits_203 : decode cX10_tellsUnits 203 = .ok (.putfield 150, 3) := by decide +kernel
theorem dX10_tellsUnits_206 : decode cX10_tellsUnits 206 = .ok (.iinc 1 1, 3) := by decide +kernel
theorem dX10_tellsUnits_209 : decode cX10_tellsUnits 209 = .ok (.goto (-202), 3) := by decide +kernel
theorem dX10_tellsUnits_212 : decode cX10_tellsUnits 212 = .ok (.return_, 1) := by decide +kernel
theorem dX10_cell_0 : decode cX10_cell 0 = .ok (.iload_n 1, 1) := by decide +kernel
theorem dX10_cell_1 : decode cX10_cell 1 = .ok (.aload_n 0, 1) := by decide +kernel
theorem dX10_cell_2 : decode cX10_cell 2 = .ok (.getfield 22, 3) := by decide +kernel
theorem dX10_cell_5 : decode cX10_cell 5 = .ok (.iadd, 1) := by decide +kernel
theorem dX10_cell_6 : decode cX10_cell 6 = .ok (.iconst 2, 1) := by decide +kernel
theorem dX10_cell_7 : decode cX10_cell 7 = .ok (.aload_n 0, 1) := by decide +kernel
theorem dX10_cell_8 : decode cX10_cell 8 = .ok (.getfield 22, 3) := by decide +kernel
theorem dX10_cell_11 : decode cX10_cell 11 = .ok (.imul, 1) := by decide +kernel
theorem dX10_cell_12 : decode cX10_cell 12 = .ok (.iconst 1, 1) := by decide +kernel
theorem dX10_cell_13 : decode cX10_cell 13 = .ok (.iadd, 1) := by decide +kernel
theorem dX10_cell_14 : decode cX10_cell 14 = .ok (.imul, 1) := by decide +kernel
theorem dX10_cell_15 : decode cX10_cell 15 = .ok (.iload_n 2, 1) := by decide +kernel
theorem dX10_cell_16 : decode cX10_cell 16 = .ok (.iadd, 1) := by decide +kernel
theorem dX10_cell_17 : decode cX10_cell 17 = .ok (.aload_n 0, 1) := by decide +kernel
theorem dX10_cell_18 : decode cX10_cell 18 = .ok (.getfield 22, 3) := by decide +kernel
theorem dX10_cell_21 : decode cX10_cell 21 = .ok (.iadd, 1) := by decide +kernel
theorem dX10_cell_22 : decode cX10_cell 22 = .ok (.ireturn, 1) := by decide +kernel
theorem dX10_leastOf_0 : decode cX10_leastOf 0 = .ok (.iload_n 1, 1) := by decide +kernel
theorem dX10_leastOf_1 : decode cX10_leastOf 1 = .ok (.istore_n 2, 1) := by decide +kernel
theorem dX10_leastOf_2 : decode cX10_leastOf 2 = .ok (.aload_n 0, 1) := by decide +kernel
theorem dX10_leastOf_3 : decode cX10_leastOf 3 = .ok (.getfield 50, 3) := by decide +kernel
theorem dX10_leastOf_6 : decode cX10_leastOf 6 = .ok (.iload_n 2, 1) := by decide +kernel
theorem dX10_leastOf_7 : decode cX10_leastOf 7 = .ok (.iaload, 1) := by decide +kernel
theorem dX10_leastOf_8 : decode cX10_leastOf 8 = .ok (.iload_n 2, 1) := by decide +kernel
theorem dX10_leastOf_9 : decode cX10_leastOf 9 = .ok (.if_icmp .eq 13, 3) := by decide +kernel
theorem dX10_leastOf_12 : decode cX10_leastOf 12 = .ok (.aload_n 0, 1) := by decide +kernel
theorem dX10_leastOf_13 : decode cX10_leastOf 13 = .ok (.getfield 50, 3) := by decide +kernel
theorem dX10_leastOf_16 : decode cX10_leastOf 16 = .ok (.iload_n 2, 1) := by decide +kernel
theorem dX10_leastOf_17 : decode cX10_leastOf 17 = .ok (.iaload, 1) := by decide +kernel
theorem dX10_leastOf_18 : decode cX10_leastOf 18 = .ok (.istore_n 2, 1) := by decide +kernel
theorem dX10_leastOf_19 : decode cX10_leastOf 19 = .ok (.goto (-17), 3) := by decide +kernel
theorem dX10_leastOf_22 : decode cX10_leastOf 22 = .ok (.iload_n 2, 1) := by decide +kernel
theorem dX10_leastOf_23 : decode cX10_leastOf 23 = .ok (.ireturn, 1) := by decide +kernel
theorem dX10_links_0 : decode cX10_links 0 = .ok (.aload_n 0, 1) := by decide +kernel
theorem dX10_links_1 : decode cX10_links 1 = .ok (.iload_n 1, 1) := by decide +kernel
theorem dX10_links_2 : decode cX10_links 2 = .ok (.invokevirtual 153, 3) := by decide +kernel
theorem dX10_links_5 : decode cX10_links 5 = .ok (.istore_n 3, 1) := by decide +kernel
theorem dX10_links_6 : decode cX10_links 6 = .ok (.aload_n 0, 1) := by decide +kernel
theorem dX10_links_7 : decode cX10_links 7 = .ok (.iload_n 2, 1) := by decide +kernel
theorem dX10_links_8 : decode cX10_links 8 = .ok (.invokevirtual 153, 3) := by decide +kernel
theorem dX10_links_11 : decode cX10_links 11 = .ok (.istore 4, 2) := by decide +kernel
theorem dX10_links_13 : decode cX10_links 13 = .ok (.aload_n 0, 1) := by decide +kernel
theorem dX10_links_14 : decode cX10_links 14 = .ok (.getfield 50, 3) := by decide +kernel
theorem dX10_links_17 : decode cX10_links 17 = .ok (.iload_n 3, 1) := by decide +kernel
theorem dX10_links_18 : decode cX10_links 18 = .ok (.iload 4, 2) := by decide +kernel
theorem dX10_links_20 : decode cX10_links 20 = .ok (.if_icmp .le 7, 3) := by decide +kernel
theorem dX10_links_23 : decode cX10_links 23 = .ok (.iload_n 3, 1) := by decide +kernel
theorem dX10_links_24 : decode cX10_links 24 = .ok (.goto 5, 3) := by decide +kernel
theorem dX10_links_27 : decode cX10_links 27 = .ok (.iload 4, 2) := by decide +kernel
theorem dX10_links_29 : decode cX10_links 29 = .ok (.iload_n 3, 1) := by decide +kernel
theorem dX10_links_30 : decode cX10_links 30 = .ok (.iload 4, 2) := by decide +kernel
theorem dX10_links_32 : decode cX10_links 32 = .ok (.if_icmp .le 8, 3) := by decide +kernel
theorem dX10_links_35 : decode cX10_links 35 = .ok (.iload 4, 2) := by decide +kernel
theorem dX10_links_37 : decode cX10_links 37 = .ok (.goto 4, 3) := by decide +kernel
theorem dX10_links_40 : decode cX10_links 40 = .ok (.iload_n 3, 1) := by decide +kernel
theorem dX10_links_41 : decode cX10_links 41 = .ok (.iastore, 1) := by decide +kernel
theorem dX10_links_42 : decode cX10_links 42 = .ok (.return_, 1) := by decide +kernel
theorem dX10_tellsFamilies_0 : decode cX10_tellsFamilies 0 = .ok (.aload_n 0, 1) := by decide +kernel
theorem dX10_tellsFamilies_1 : decode cX10_tellsFamilies 1 = .ok (.invokevirtual 157, 3) := by decide +kernel
theorem dX10_tellsFamilies_4 : decode cX10_tellsFamilies 4 = .ok (.aload_n 0, 1) := by decide +kernel
theorem dX10_tellsFamilies_5 : decode cX10_tellsFamilies 5 = .ok (.invokevirtual 160, 3) := by decide +kernel
theorem dX10_tellsFamilies_8 : decode cX10_tellsFamilies 8 = .ok (.iconst 0, 1) := by decide +kernel
theorem dX10_tellsFamilies_9 : decode cX10_tellsFamilies 9 = .ok (.istore_n 1, 1) := by decide +kernel
theorem dX10_tellsFamilies_10 : decode cX10_tellsFamilies 10 = .ok (.iload_n 1, 1) := by decide +kernel
theorem dX10_tellsFamilies_11 : decode cX10_tellsFamilies 11 = .ok (.sipush 6561, 3) := by decide +kernel
theorem dX10_tellsFamilies_14 : decode cX10_tellsFamilies 14 = .ok (.if_icmp .ge 16, 3) := by decide +kernel
theorem dX10_tellsFamilies_17 : decode cX10_tellsFamilies 17 = .ok (.aload_n 0, 1) := by decide +kernel
theorem dX10_tellsFamilies_18 : decode cX10_tellsFamilies 18 = .ok (.getfield 47, 3) := by decide +kernel
theorem dX10_tellsFamilies_21 : decode cX10_tellsFamilies 21 = .ok (.iload_n 1, 1) := by decide +kernel
theorem dX10_tellsFamilies_22 : decode cX10_tellsFamilies 22 = .ok (.iconst (-1), 1) := by decide +kernel
theorem dX10_tellsFamilies_23 : decode cX10_tellsFamilies 23 = .ok (.iastore, 1) := by decide +kernel
theorem dX10_tellsFamilies_24 : decode cX10_tellsFamilies 24 = .ok (.iinc 1 1, 3) := by decide +kernel
theorem dX10_tellsFamilies_27 : decode cX10_tellsFamilies 27 = .ok (.goto (-17), 3) := by decide +kernel
theorem dX10_tellsFamilies_30 : decode cX10_tellsFamilies 30 = .ok (.iconst 0, 1) := by decide +kernel
theorem dX10_tellsFamilies_31 : decode cX10_tellsFamilies 31 = .ok (.istore_n 1, 1) := by decide +kernel
theorem dX10_tellsFamilies_32 : decode cX10_tellsFamilies 32 = .ok (.iload_n 1, 1) := by decide +kernel
theorem dX10_tellsFamilies_33 : decode cX10_tellsFamilies 33 = .ok (.aload_n 0, 1) := by decide +kernel
theorem dX10_tellsFamilies_34 : decode cX10_tellsFamilies 34 = .ok (.getfield 143, 3) := by decide +kernel
theorem dX10_tellsFamilies_37 : decode cX10_tellsFamilies 37 = .ok (.if_icmp .ge 44, 3) := by decide +kernel
theorem dX10_tellsFamilies_40 : decode cX10_tellsFamilies 40 = .ok (.aload_n 0, 1) := by decide +kernel
theorem dX10_tellsFamilies_41 : decode cX10_tellsFamilies 41 = .ok (.getfield 47, 3) := by decide +kernel
theorem dX10_tellsFamilies_44 : decode cX10_tellsFamilies 44 = .ok (.aload_n 0, 1) := by decide +kernel
theorem dX10_tellsFamilies_45 : decode cX10_tellsFamilies 45 = .ok (.aload_n 0, 1) := by decide +kernel
theorem dX10_tellsFamilies_46 : decode cX10_tellsFamilies 46 = .ok (.getfield 41, 3) := by decide +kernel
theorem dX10_tellsFamilies_49 : decode cX10_tellsFamilies 49 = .ok (.iconst 2, 1) := by decide +kernel
theorem dX10_tellsFamilies_50 : decode cX10_tellsFamilies 50 = .ok (.iload_n 1, 1) := by decide +kernel
theorem dX10_tellsFamilies_51 : decode cX10_tellsFamilies 51 = .ok (.imul, 1) := by decide +kernel
theorem dX10_tellsFamilies_52 : decode cX10_tellsFamilies 52 = .ok (.iaload, 1) := by decide +kernel
theorem dX10_tellsFamilies_53 : decode cX10_tellsFamilies 53 = .ok (.aload_n 0, 1) := by decide +kernel
theorem dX10_tellsFamilies_54 : decode cX10_tellsFamilies 54 = .ok (.getfield 41, 3) := by decide +kernel
theorem dX10_tellsFamilies_57 : decode cX10_tellsFamilies 57 = .ok (.iconst 2, 1) := by decide +kernel
theorem dX10_tellsFamilies_58 : decode cX10_tellsFamilies 58 = .ok (.iload_n 1, 1) := by decide +kernel
theorem dX10_tellsFamilies_59 : decode cX10_tellsFamilies 59 = .ok (.imul, 1) := by decide +kernel
theorem dX10_tellsFamilies_60 : decode cX10_tellsFamilies 60 = .ok (.iconst 1, 1) := by decide +kernel
theorem dX10_tellsFamilies_61 : decode cX10_tellsFamilies 61 = .ok (.iadd, 1) := by decide +kernel
theorem dX10_tellsFamilies_62 : decode cX10_tellsFamilies 62 = .ok (.iaload, 1) := by decide +kernel
theorem dX10_tellsFamilies_63 : decode cX10_tellsFamilies 63 = .ok (.invokevirtual 163, 3) := by decide +kernel
theorem dX10_tellsFamilies_66 : decode cX10_tellsFamilies 66 = .ok (.iload_n 1, 1) := by decide +kernel
theorem dX10_tellsFamilies_67 : decode cX10_tellsFamilies 67 = .ok (.iastore, 1) := by decide +kernel
theorem dX10_tellsFamilies_68 : decode cX10_tellsFamilies 68 = .ok (.aload_n 0, 1) := by decide +kernel
theorem dX10_tellsFamilies_69 : decode cX10_tellsFamilies 69 = .ok (.getfield 50, 3) := by decide +kernel
theorem dX10_tellsFamilies_72 : decode cX10_tellsFamilies 72 = .ok (.iload_n 1, 1) := by decide +kernel
theorem dX10_tellsFamilies_73 : decode cX10_tellsFamilies 73 = .ok (.iload_n 1, 1) := by decide +kernel
theorem dX10_tellsFamilies_74 : decode cX10_tellsFamilies 74 = .ok (.iastore, 1) := by decide +kernel
theorem dX10_tellsFamilies_75 : decode cX10_tellsFamilies 75 = .ok (.iinc 1 1, 3) := by decide +kernel
theorem dX10_tellsFamilies_78 : decode cX10_tellsFamilies 78 = .ok (.goto (-46), 3) := by decide +kernel
theorem dX10_tellsFamilies_81 : decode cX10_tellsFamilies 81 = .ok (.iconst 0, 1) := by decide +kernel
theorem dX10_tellsFamilies_82 : decode cX10_tellsFamilies 82 = .ok (.istore_n 1, 1) := by decide +kernel
theorem dX10_tellsFamilies_83 : decode cX10_tellsFamilies 83 = .ok (.iload_n 1, 1) := by decide +kernel
theorem dX10_tellsFamilies_84 : decode cX10_tellsFamilies 84 = .ok (.aload_n 0, 1) := by decide +kernel
theorem dX10_tellsFamilies_85 : decode cX10_tellsFamilies 85 = .ok (.getfield 143, 3) := by decide +kernel
theorem dX10_tellsFamilies_88 : decode cX10_tellsFamilies 88 = .ok (.if_icmp .ge 164, 3) := by decide +kernel
theorem dX10_tellsFamilies_91 : decode cX10_tellsFamilies 91 = .ok (.iconst 0, 1) := by decide +kernel
theorem dX10_tellsFamilies_92 : decode cX10_tellsFamilies 92 = .ok (.istore_n 2, 1) := by decide +kernel
theorem dX10_tellsFamilies_93 : decode cX10_tellsFamilies 93 = .ok (.iload_n 2, 1) := by decide +kernel
theorem dX10_tellsFamilies_94 : decode cX10_tellsFamilies 94 = .ok (.aload_n 0, 1) := by decide +kernel
theorem dX10_tellsFamilies_95 : decode cX10_tellsFamilies 95 = .ok (.getfield 150, 3) := by decide +kernel
theorem dX10_tellsFamilies_98 : decode cX10_tellsFamilies 98 = .ok (.if_icmp .ge 148, 3) := by decide +kernel
theorem dX10_tellsFamilies_101 : decode cX10_tellsFamilies 101 = .ok (.aload_n 0, 1) := by decide +kernel
theorem dX10_tellsFamilies_102 : decode cX10_tellsFamilies 102 = .ok (.getfield 44, 3) := by decide +kernel
theorem dX10_tellsFamilies_105 : decode cX10_tellsFamilies 105 = .ok (.iconst 4, 1) := by decide +kernel
theorem dX10_tellsFamilies_106 : decode cX10_tellsFamilies 106 = .ok (.iload_n 2, 1) := by decide +kernel
theorem dX10_tellsFamilies_107 : decode cX10_tellsFamilies 107 = .ok (.imul, 1) := by decide +kernel
theorem dX10_tellsFamilies_108 : decode cX10_tellsFamilies 108 = .ok (.iaload, 1) := by decide +kernel
theorem dX10_tellsFamilies_109 : decode cX10_tellsFamilies 109 = .ok (.aload_n 0, 1) := by decide +kernel
theorem dX10_tellsFamilies_110 : decode cX10_tellsFamilies 110 = .ok (.getfield 41, 3) := by decide +kernel
theorem dX10_tellsFamilies_113 : decode cX10_tellsFamilies 113 = .ok (.iconst 2, 1) := by decide +kernel
theorem dX10_tellsFamilies_114 : decode cX10_tellsFamilies 114 = .ok (.iload_n 1, 1) := by decide +kernel
theorem dX10_tellsFamilies_115 : decode cX10_tellsFamilies 115 = .ok (.imul, 1) := by decide +kernel
theorem dX10_tellsFamilies_116 : decode cX10_tellsFamilies 116 = .ok (.iaload, 1) := by decide +kernel
theorem dX10_tellsFamilies_117 : decode cX10_tellsFamilies 117 = .ok (.imul, 1) := by decide +kernel
theorem dX10_tellsFamilies_118 : decode cX10_tellsFamilies 118 = .ok (.aload_n 0, 1) := by decide +kernel
theorem dX10_tellsFamilies_119 : decode cX10_tellsFamilies 119 = .ok (.getfield 44, 3) := by decide +kernel
theorem dX10_tellsFamilies_122 : decode cX10_tellsFamilies 122 = .ok (.iconst 4, 1) := by decide +kernel
theorem dX10_tellsFamilies_123 : decode cX10_tellsFamilies 123 = .ok (.iload_n 2, 1) := by decide +kernel
theorem dX10_tellsFamilies_124 : decode cX10_tellsFamilies 124 = .ok (.imul, 1) := by decide +kernel
theorem dX10_tellsFamilies_125 : decode cX10_tellsFamilies 125 = .ok (.iconst 1, 1) := by decide +kernel
theorem dX10_tellsFamilies_126 : decode cX10_tellsFamilies 126 = .ok (.iadd, 1) := by decide +kernel
theorem dX10_tellsFamilies_127 : decode cX10_tellsFamilies 127 = .ok (.iaload, 1) := by decide +kernel
theorem dX10_tellsFamilies_128 : decode cX10_tellsFamilies 128 = .ok (.aload_n 0, 1) := by decide +kernel
theorem dX10_tellsFamilies_129 : decode cX10_tellsFamilies 129 = .ok (.getfield 41, 3) := by decide +kernel
theorem dX10_tellsFamilies_132 : decode cX10_tellsFamilies 132 = .ok (.iconst 2, 1) := by decide +kernel
theorem dX10_tellsFamilies_133 : decode cX10_tellsFamilies 133 = .ok (.iload_n 1, 1) := by decide +kernel
theorem dX10_tellsFamilies_134 : decode cX10_tellsFamilies 134 = .ok (.imul, 1) := by decide +kernel
theorem dX10_tellsFamilies_135 : decode cX10_tellsFamilies 135 = .ok (.iconst 1, 1) := by decide +kernel
theorem dX10_tellsFamilies_136 : decode cX10_tellsFamilies 136 = .ok (.iadd, 1) := by decide +kernel
theorem dX10_tellsFamilies_137 : decode cX10_tellsFamilies 137 = .ok (.iaload, 1) := by decide +kernel
theorem dX10_tellsFamilies_138 : decode cX10_tellsFamilies 138 = .ok (.imul, 1) := by decide +kernel
theorem dX10_tellsFamilies_139 : decode cX10_tellsFamilies 139 = .ok (.iadd, 1) := by decide +kernel
theorem dX10_tellsFamilies_140 : decode cX10_tellsFamilies 140 = .ok (.istore_n 3, 1) := by decide +kernel
theorem dX10_tellsFamilies_141 : decode cX10_tellsFamilies 141 = .ok (.aload_n 0, 1) := by decide +kernel
theorem dX10_tellsFamilies_142 : decode cX10_tellsFamilies 142 = .ok (.getfield 44, 3) := by decide +kernel
theorem dX10_tellsFamilies_145 : decode cX10_tellsFamilies 145 = .ok (.iconst 4, 1) := by decide +kernel
theorem dX10_tellsFamilies_146 : decode cX10_tellsFamilies 146 = .ok (.iload_n 2, 1) := by decide +kernel
theorem dX10_tellsFamilies_147 : decode cX10_tellsFamilies 147 = .ok (.imul, 1) := by decide +kernel
theorem dX10_tellsFamilies_148 : decode cX10_tellsFamilies 148 = .ok (.iconst 2, 1) := by decide +kernel
theorem dX10_tellsFamilies_149 : decode cX10_tellsFamilies 149 = .ok (.iadd, 1) := by decide +kernel
theorem dX10_tellsFamilies_150 : decode cX10_tellsFamilies 150 = .ok (.iaload, 1) := by decide +kernel
theorem dX10_tellsFamilies_151 : decode cX10_tellsFamilies 151 = .ok (.aload_n 0, 1) := by decide +kernel
theorem dX10_tellsFamilies_152 : decode cX10_tellsFamilies 152 = .ok (.getfield 41, 3) := by decide +kernel
theorem dX10_tellsFamilies_155 : decode cX10_tellsFamilies 155 = .ok (.iconst 2, 1) := by decide +kernel
theorem dX10_tellsFamilies_156 : decode cX10_tellsFamilies 156 = .ok (.iload_n 1, 1) := by decide +kernel
theorem dX10_tellsFamilies_157 : decode cX10_tellsFamilies 157 = .ok (.imul, 1) := by decide +kernel
theorem dX10_tellsFamilies_158 : decode cX10_tellsFamilies 158 = .ok (.iaload, 1) := by decide +kernel
theorem dX10_tellsFamilies_159 : decode cX10_tellsFamilies 159 = .ok (.imul, 1) := by decide +kernel
theorem dX10_tellsFamilies_160 : decode cX10_tellsFamilies 160 = .ok (.aload_n 0, 1) := by decide +kernel
theorem dX10_tellsFamilies_161 : decode cX10_tellsFamilies 161 = .ok (.getfield 44, 3) := by decide +kernel
theorem dX10_tellsFamilies_164 : decode cX10_tellsFamilies 164 = .ok (.iconst 4, 1) := by decide +kernel
theorem dX10_tellsFamilies_165 : decode cX10_tellsFamilies 165 = .ok (.iload_n 2, 1) := by decide +kernel
theorem dX10_tellsFamilies_166 : decode cX10_tellsFamilies 166 = .ok (.imul, 1) := by decide +kernel
theorem dX10_tellsFamilies_167 : decode cX10_tellsFamilies 167 = .ok (.iconst 3, 1) := by decide +kernel
theorem dX10_tellsFamilies_168 : decode cX10_tellsFamilies 168 = .ok (.iadd, 1) := by decide +kernel
theorem dX10_tellsFamilies_169 : decode cX10_tellsFamilies 169 = .ok (.iaload, 1) := by decide +kernel
theorem dX10_tellsFamilies_170 : decode cX10_tellsFamilies 170 = .ok (.aload_n 0, 1) := by decide +kernel
theorem dX10_tellsFamilies_171 : decode cX10_tellsFamilies 171 = .ok (.getfield 41, 3) := by decide +kernel
theorem dX10_tellsFamilies_174 : decode cX10_tellsFamilies 174 = .ok (.iconst 2, 1) := by decide +kernel
theorem dX10_tellsFamilies_175 : decode cX10_tellsFamilies 175 = .ok (.iload_n 1, 1) := by decide +kernel
theorem dX10_tellsFamilies_176 : decode cX10_tellsFamilies 176 = .ok (.imul, 1) := by decide +kernel
theorem dX10_tellsFamilies_177 : decode cX10_tellsFamilies 177 = .ok (.iconst 1, 1) := by decide +kernel
theorem dX10_tellsFamilies_178 : decode cX10_tellsFamilies 178 = .ok (.iadd, 1) := by decide +kernel
theorem dX10_tellsFamilies_179 : decode cX10_tellsFamilies 179 = .ok (.iaload, 1) := by decide +kernel
theorem dX10_tellsFamilies_180 : decode cX10_tellsFamilies 180 = .ok (.imul, 1) := by decide +kernel
theorem dX10_tellsFamilies_181 : decode cX10_tellsFamilies 181 = .ok (.iadd, 1) := by decide +kernel
theorem dX10_tellsFamilies_182 : decode cX10_tellsFamilies 182 = .ok (.istore 4, 2) := by decide +kernel
theorem dX10_tellsFamilies_184 : decode cX10_tellsFamilies 184 = .ok (.iload_n 3, 1) := by decide +kernel
theorem dX10_tellsFamilies_185 : decode cX10_tellsFamilies 185 = .ok (.i2l, 1) := by decide +kernel
theorem dX10_tellsFamilies_186 : decode cX10_tellsFamilies 186 = .ok (.aload_n 0, 1) := by decide +kernel
theorem dX10_tellsFamilies_187 : decode cX10_tellsFamilies 187 = .ok (.getfield 22, 3) := by decide +kernel
theorem dX10_tellsFamilies_190 : decode cX10_tellsFamilies 190 = .ok (.ineg, 1) := by decide +kernel
theorem dX10_tellsFamilies_191 : decode cX10_tellsFamilies 191 = .ok (.i2l, 1) := by decide +kernel
theorem dX10_tellsFamilies_192 : decode cX10_tellsFamilies 192 = .ok (.aload_n 0, 1) := by decide +kernel
theorem dX10_tellsFamilies_193 : decode cX10_tellsFamilies 193 = .ok (.getfield 22, 3) := by decide +kernel
theorem dX10_tellsFamilies_196 : decode cX10_tellsFamilies 196 = .ok (.i2l, 1) := by decide +kernel
theorem dX10_tellsFamilies_197 : decode cX10_tellsFamilies 197 = .ok (.invokestatic 96, 3) := by decide +kernel
theorem dX10_tellsFamilies_200 : decode cX10_tellsFamilies 200 = .ok (.ifCond .eq 40, 3) := by decide +kernel
theorem dX10_tellsFamilies_203 : decode cX10_tellsFamilies 203 = .ok (.iload 4, 2) := by decide +kernel
theorem dX10_tellsFamilies_205 : decode cX10_tellsFamilies 205 = .ok (.i2l, 1) := by decide +kernel
theorem dX10_tellsFamilies_206 : decode cX10_tellsFamilies 206 = .ok (.aload_n 0, 1) := by decide +kernel
theorem dX10_tellsFamilies_207 : decode cX10_tellsFamilies 207 = .ok (.getfield 22, 3) := by decide +kernel
theorem dX10_tellsFamilies_210 : decode cX10_tellsFamilies 210 = .ok (.ineg, 1) := by decide +kernel
theorem dX10_tellsFamilies_211 : decode cX10_tellsFamilies 211 = .ok (.i2l, 1) := by decide +kernel
theorem dX10_tellsFamilies_212 : decode cX10_tellsFamilies 212 = .ok (.aload_n 0, 1) := by decide +kernel
theorem dX10_tellsFamilies_213 : decode cX10_tellsFamilies 213 = .ok (.getfield 22, 3) := by decide +kernel
theorem dX10_tellsFamilies_216 : decode cX10_tellsFamilies 216 = .ok (.i2l, 1) := by decide +kernel
theorem dX10_tellsFamilies_217 : decode cX10_tellsFamilies 217 = .ok (.invokestatic 96, 3) := by decide +kernel
theorem dX10_tellsFamilies_220 : decode cX10_tellsFamilies 220 = .ok (.ifCond .eq 20, 3) := by decide +kernel
theorem dX10_tellsFamilies_223 : decode cX10_tellsFamilies 223 = .ok (.aload_n 0, 1) := by decide +kernel
theorem dX10_tellsFamilies_224 : decode cX10_tellsFamilies 224 = .ok (.iload_n 1, 1) := by decide +kernel
theorem dX10_tellsFamilies_225 : decode cX10_tellsFamilies 225 = .ok (.aload_n 0, 1) := by decide +kernel
theorem dX10_tellsFamilies_226 : decode cX10_tellsFamilies 226 = .ok (.getfield 47, 3) := by decide +kernel
theorem dX10_tellsFamilies_229 : decode cX10_tellsFamilies 229 = .ok (.aload_n 0, 1) := by decide +kernel
theorem dX10_tellsFamilies_230 : decode cX10_tellsFamilies 230 = .ok (.iload_n 3, 1) := by decide +kernel
theorem dX10_tellsFamilies_231 : decode cX10_tellsFamilies 231 = .ok (.iload 4, 2) := by decide +kernel
theorem dX10_tellsFamilies_233 : decode cX10_tellsFamilies 233 = .ok (.invokevirtual 163, 3) := by decide +kernel
theorem dX10_tellsFamilies_236 : decode cX10_tellsFamilies 236 = .ok (.iaload, 1) := by decide +kernel
theorem dX10_tellsFamilies_237 : decode cX10_tellsFamilies 237 = .ok (.invokevirtual 167, 3) := by decide +kernel
theorem dX10_tellsFamilies_240 : decode cX10_tellsFamilies 240 = .ok (.iinc 2 1, 3) := by decide +kernel
theorem dX10_tellsFamilies_243 : decode cX10_tellsFamilies 243 = .ok (.goto (-150), 3) := by decide +kernel
theorem dX10_tellsFamilies_246 : decode cX10_tellsFamilies 246 = .ok (.iinc 1 1, 3) := by decide +kernel
theorem dX10_tellsFamilies_249 : decode cX10_tellsFamilies 249 = .ok (.goto (-166), 3) := by decide +kernel
theorem dX10_tellsFamilies_252 : decode cX10_tellsFamilies 252 = .ok (.aload_n 0, 1) := by decide +kernel
theorem dX10_tellsFamilies_253 : decode cX10_tellsFamilies 253 = .ok (.iconst 0, 1) := by decide +kernel
theorem dX10_tellsFamilies_254 : decode cX10_tellsFamilies 254 = .ok (.putfield 171, 3) := by decide +kernel
theorem dX10_tellsFamilies_257 : decode cX10_tellsFamilies 257 = .ok (.iconst 0, 1) := by decide +kernel
theorem dX10_tellsFamilies_258 : decode cX10_tellsFamilies 258 = .ok (.istore_n 1, 1) := by decide +kernel
theorem dX10_tellsFamilies_259 : decode cX10_tellsFamilies 259 = .ok (.iload_n 1, 1) := by decide +kernel
theorem dX10_tellsFamilies_260 : decode cX10_tellsFamilies 260 = .ok (.aload_n 0, 1) := by decide +kernel
theorem dX10_tellsFamilies_261 : decode cX10_tellsFamilies 261 = .ok (.getfield 143, 3) := by decide +kernel
theorem dX10_tellsFamilies_264 : decode cX10_tellsFamilies 264 = .ok (.if_icmp .ge 58, 3) := by decide +kernel
theorem dX10_tellsFamilies_267 : decode cX10_tellsFamilies 267 = .ok (.aload_n 0, 1) := by decide +kernel
theorem dX10_tellsFamilies_268 : decode cX10_tellsFamilies 268 = .ok (.getfield 50, 3) := by decide +kernel
theorem dX10_tellsFamilies_271 : decode cX10_tellsFamilies 271 = .ok (.iload_n 1, 1) := by decide +kernel
theorem dX10_tellsFamilies_272 : decode cX10_tellsFamilies 272 = .ok (.iaload, 1) := by decide +kernel
theorem dX10_tellsFamilies_273 : decode cX10_tellsFamilies 273 = .ok (.iload_n 1, 1) := by decide +kernel
theorem dX10_tellsFamilies_274 : decode cX10_tellsFamilies 274 = .ok (.if_icmp .ne 26, 3) := by decide +kernel
theorem dX10_tellsFamilies_277 : decode cX10_tellsFamilies 277 = .ok (.aload_n 0, 1) := by decide +kernel
theorem dX10_tellsFamilies_278 : decode cX10_tellsFamilies 278 = .ok (.getfield 53, 3) := by decide +kernel
theorem dX10_tellsFamilies_281 : decode cX10_tellsFamilies 281 = .ok (.iload_n 1, 1) := by decide +kernel
theorem dX10_tellsFamilies_282 : decode cX10_tellsFamilies 282 = .ok (.aload_n 0, 1) := by decide +kernel
theorem dX10_tellsFamilies_283 : decode cX10_tellsFamilies 283 = .ok (.getfield 171, 3) := by decide +kernel
theorem dX10_tellsFamilies_286 : decode cX10_tellsFamilies 286 = .ok (.iastore, 1) := by decide +kernel
theorem dX10_tellsFamilies_287 : decode cX10_tellsFamilies 287 = .ok (.aload_n 0, 1) := by decide +kernel
theorem dX10_tellsFamilies_288 : decode cX10_tellsFamilies 288 = .ok (.dup, 1) := by decide +kernel
theorem dX10_tellsFamilies_289 : decode cX10_tellsFamilies 289 = .ok (.getfield 171, 3) := by decide +kernel
theorem dX10_tellsFamilies_292 : decode cX10_tellsFamilies 292 = .ok (.iconst 1, 1) := by decide +kernel
theorem dX10_tellsFamilies_293 : decode cX10_tellsFamilies 293 = .ok (.iadd, 1) := by decide +kernel
theorem dX10_tellsFamilies_294 : decode cX10_tellsFamilies 294 = .ok (.putfield 171, 3) := by decide +kernel
theorem dX10_tellsFamilies_297 : decode cX10_tellsFamilies 297 = .ok (.goto 19, 3) := by decide +kernel
theorem dX10_tellsFamilies_300 : decode cX10_tellsFamilies 300 = .ok (.aload_n 0, 1) := by decide +kernel
theorem dX10_tellsFamilies_301 : decode cX10_tellsFamilies 301 = .ok (.getfield 53, 3) := by decide +kernel
theorem dX10_tellsFamilies_304 : decode cX10_tellsFamilies 304 = .ok (.iload_n 1, 1) := by decide +kernel
theorem dX10_tellsFamilies_305 : decode cX10_tellsFamilies 305 = .ok (.aload_n 0, 1) := by decide +kernel
theorem dX10_tellsFamilies_306 : decode cX10_tellsFamilies 306 = .ok (.getfield 53, 3) := by decide +kernel
theorem dX10_tellsFamilies_309 : decode cX10_tellsFamilies 309 = .ok (.aload_n 0, 1) := by decide +kernel
theorem dX10_tellsFamilies_310 : decode cX10_tellsFamilies 310 = .ok (.iload_n 1, 1) := by decide +kernel
theorem dX10_tellsFamilies_311 : decode cX10_tellsFamilies 311 = .ok (.invokevirtual 153, 3) := by decide +kernel
theorem dX10_tellsFamilies_314 : decode cX10_tellsFamilies 314 = .ok (.iaload, 1) := by decide +kernel
theorem dX10_tellsFamilies_315 : decode cX10_tellsFamilies 315 = .ok (.iastore, 1) := by decide +kernel
theorem dX10_tellsFamilies_316 : decode cX10_tellsFamilies 316 = .ok (.iinc 1 1, 3) := by decide +kernel
theorem dX10_tellsFamilies_319 : decode cX10_tellsFamilies 319 = .ok (.goto (-60), 3) := by decide +kernel
theorem dX10_tellsFamilies_322 : decode cX10_tellsFamilies 322 = .ok (.return_, 1) := by decide +kernel
theorem dX10_remainders_0 : decode cX10_remainders 0 = .ok (.iconst 0, 1) := by decide +kernel
theorem dX10_remainders_1 : decode cX10_remainders 1 = .ok (.istore_n 2, 1) := by decide +kernel
theorem dX10_remainders_2 : decode cX10_remainders 2 = .ok (.iload_n 2, 1) := by decide +kernel
theorem dX10_remainders_3 : decode cX10_remainders 3 = .ok (.bipush 13, 2) := by decide +kernel
theorem dX10_remainders_5 : decode cX10_remainders 5 = .ok (.if_icmp .ge 16, 3) := by decide +kernel
theorem dX10_remainders_8 : decode cX10_remainders 8 = .ok (.aload_n 0, 1) := by decide +kernel
theorem dX10_remainders_9 : decode cX10_remainders 9 = .ok (.getfield 59, 3) := by decide +kernel
theorem dX10_remainders_12 : decode cX10_remainders 12 = .ok (.iload_n 2, 1) := by decide +kernel
theorem dX10_remainders_13 : decode cX10_remainders 13 = .ok (.iconst 0, 1) := by decide +kernel
theorem dX10_remainders_14 : decode cX10_remainders 14 = .ok (.bastore, 1) := by decide +kernel
theorem dX10_remainders_15 : decode cX10_remainders 15 = .ok (.iinc 2 1, 3) := by decide +kernel
theorem dX10_remainders_18 : decode cX10_remainders 18 = .ok (.goto (-16), 3) := by decide +kernel
theorem dX10_remainders_21 : decode cX10_remainders 21 = .ok (.iconst 0, 1) := by decide +kernel
theorem dX10_remainders_22 : decode cX10_remainders 22 = .ok (.istore_n 2, 1) := by decide +kernel
theorem dX10_remainders_23 : decode cX10_remainders 23 = .ok (.iload_n 2, 1) := by decide +kernel
theorem dX10_remainders_24 : decode cX10_remainders 24 = .ok (.iload_n 1, 1) := by decide +kernel
theorem dX10_remainders_25 : decode cX10_remainders 25 = .ok (.if_icmp .ge 46, 3) := by decide +kernel
theorem dX10_remainders_28 : decode cX10_remainders 28 = .ok (.iconst 0, 1) := by decide +kernel
theorem dX10_remainders_29 : decode cX10_remainders 29 = .ok (.istore_n 3, 1) := by decide +kernel
theorem dX10_remainders_30 : decode cX10_remainders 30 = .ok (.iload_n 3, 1) := by decide +kernel
theorem dX10_remainders_31 : decode cX10_remainders 31 = .ok (.iload_n 1, 1) := by decide +kernel
theorem dX10_remainders_32 : decode cX10_remainders 32 = .ok (.if_icmp .ge 33, 3) := by decide +kernel
theorem dX10_remainders_35 : decode cX10_remainders 35 = .ok (.aload_n 0, 1) := by decide +kernel
theorem dX10_remainders_36 : decode cX10_remainders 36 = .ok (.getfield 59, 3) := by decide +kernel
theorem dX10_remainders_39 : decode cX10_remainders 39 = .ok (.aload_n 0, 1) := by decide +kernel
theorem dX10_remainders_40 : decode cX10_remainders 40 = .ok (.iload_n 2, 1) := by decide +kernel
theorem dX10_remainders_41 : decode cX10_remainders 41 = .ok (.i2l, 1) := by decide +kernel
theorem dX10_remainders_42 : decode cX10_remainders 42 = .ok (.iload_n 3, 1) := by decide +kernel
theorem dX10_remainders_43 : decode cX10_remainders 43 = .ok (.i2l, 1) := by decide +kernel
theorem dX10_remainders_44 : decode cX10_remainders 44 = .ok (.invokevirtual 146, 3) := by decide +kernel
theorem dX10_remainders_47 : decode cX10_remainders 47 = .ok (.iload_n 1, 1) := by decide +kernel
theorem dX10_remainders_48 : decode cX10_remainders 48 = .ok (.i2l, 1) := by decide +kernel
theorem dX10_remainders_49 : decode cX10_remainders 49 = .ok (.lrem, 1) := by decide +kernel
theorem dX10_remainders_50 : decode cX10_remainders 50 = .ok (.iload_n 1, 1) := by decide +kernel
theorem dX10_remainders_51 : decode cX10_remainders 51 = .ok (.i2l, 1) := by decide +kernel
theorem dX10_remainders_52 : decode cX10_remainders 52 = .ok (.ladd, 1) := by decide +kernel
theorem dX10_remainders_53 : decode cX10_remainders 53 = .ok (.iload_n 1, 1) := by decide +kernel
theorem dX10_remainders_54 : decode cX10_remainders 54 = .ok (.i2l, 1) := by decide +kernel
theorem dX10_remainders_55 : decode cX10_remainders 55 = .ok (.lrem, 1) := by decide +kernel
theorem dX10_remainders_56 : decode cX10_remainders 56 = .ok (.l2i, 1) := by decide +kernel
theorem dX10_remainders_57 : decode cX10_remainders 57 = .ok (.iconst 1, 1) := by decide +kernel
theorem dX10_remainders_58 : decode cX10_remainders 58 = .ok (.bastore, 1) := by decide +kernel
theorem dX10_remainders_59 : decode cX10_remainders 59 = .ok (.iinc 3 1, 3) := by decide +kernel
theorem dX10_remainders_62 : decode cX10_remainders 62 = .ok (.goto (-32), 3) := by decide +kernel
theorem dX10_remainders_65 : decode cX10_remainders 65 = .ok (.iinc 2 1, 3) := by decide +kernel
theorem dX10_remainders_68 : decode cX10_remainders 68 = .ok (.goto (-45), 3) := by decide +kernel
theorem dX10_remainders_71 : decode cX10_remainders 71 = .ok (.iconst 0, 1) := by decide +kernel
theorem dX10_remainders_72 : decode cX10_remainders 72 = .ok (.istore_n 2, 1) := by decide +kernel
theorem dX10_remainders_73 : decode cX10_remainders 73 = .ok (.iconst 0, 1) := by decide +kernel
theorem dX10_remainders_74 : decode cX10_remainders 74 = .ok (.istore_n 3, 1) := by decide +kernel
theorem dX10_remainders_75 : decode cX10_remainders 75 = .ok (.iload_n 3, 1) := by decide +kernel
theorem dX10_remainders_76 : decode cX10_remainders 76 = .ok (.bipush 13, 2) := by decide +kernel
theorem dX10_remainders_78 : decode cX10_remainders 78 = .ok (.if_icmp .ge 26, 3) := by decide +kernel
theorem dX10_remainders_81 : decode cX10_remainders 81 = .ok (.iload_n 2, 1) := by decide +kernel
theorem dX10_remainders_82 : decode cX10_remainders 82 = .ok (.aload_n 0, 1) := by decide +kernel
theorem dX10_remainders_83 : decode cX10_remainders 83 = .ok (.getfield 59, 3) := by decide +kernel
theorem dX10_remainders_86 : decode cX10_remainders 86 = .ok (.iload_n 3, 1) := by decide +kernel
theorem dX10_remainders_87 : decode cX10_remainders 87 = .ok (.baload, 1) := by decide +kernel
theorem dX10_remainders_88 : decode cX10_remainders 88 = .ok (.ifCond .eq 7, 3) := by decide +kernel
theorem dX10_remainders_91 : decode cX10_remainders 91 = .ok (.iconst 1, 1) := by decide +kernel
theorem dX10_remainders_92 : decode cX10_remainders 92 = .ok (.goto 4, 3) := by decide +kernel
theorem dX10_remainders_95 : decode cX10_remainders 95 = .ok (.iconst 0, 1) := by decide +kernel
theorem dX10_remainders_96 : decode cX10_remainders 96 = .ok (.iadd, 1) := by decide +kernel
theorem dX10_remainders_97 : decode cX10_remainders 97 = .ok (.istore_n 2, 1) := by decide +kernel
theorem dX10_remainders_98 : decode cX10_remainders 98 = .ok (.iinc 3 1, 3) := by decide +kernel
theorem dX10_remainders_101 : decode cX10_remainders 101 = .ok (.goto (-26), 3) := by decide +kernel
theorem dX10_remainders_104 : decode cX10_remainders 104 = .ok (.iload_n 2, 1) := by decide +kernel
theorem dX10_remainders_105 : decode cX10_remainders 105 = .ok (.ireturn, 1) := by decide +kernel
theorem dX10_bars_0 : decode cX10_bars 0 = .ok (.aload_n 0, 1) := by decide +kernel
theorem dX10_bars_1 : decode cX10_bars 1 = .ok (.iload_n 1, 1) := by decide +kernel
theorem dX10_bars_2 : decode cX10_bars 2 = .ok (.invokevirtual 174, 3) := by decide +kernel
theorem dX10_bars_5 : decode cX10_bars 5 = .ok (.istore_n 2, 1) := by decide +kernel
theorem dX10_bars_6 : decode cX10_bars 6 = .ok (.aload_n 0, 1) := by decide +kernel
theorem dX10_bars_7 : decode cX10_bars 7 = .ok (.getfield 59, 3) := by decide +kernel
theorem dX10_bars_10 : decode cX10_bars 10 = .ok (.aload_n 0, 1) := by decide +kernel
theorem dX10_bars_11 : decode cX10_bars 11 = .ok (.getfield 19, 3) := by decide +kernel
theorem dX10_bars_14 : decode cX10_bars 14 = .ok (.iload_n 1, 1) := by decide +kernel
theorem dX10_bars_15 : decode cX10_bars 15 = .ok (.irem, 1) := by decide +kernel
theorem dX10_bars_16 : decode cX10_bars 16 = .ok (.iload_n 1, 1) := by decide +kernel
theorem dX10_bars_17 : decode cX10_bars 17 = .ok (.iadd, 1) := by decide +kernel
theorem dX10_bars_18 : decode cX10_bars 18 = .ok (.iload_n 1, 1) := by decide +kernel
theorem dX10_bars_19 : decode cX10_bars 19 = .ok (.irem, 1) := by decide +kernel
theorem dX10_bars_20 : decode cX10_bars 20 = .ok (.baload, 1) := by decide +kernel
theorem dX10_bars_21 : decode cX10_bars 21 = .ok (.ifCond .ne 7, 3) := by decide +kernel
theorem dX10_bars_24 : decode cX10_bars 24 = .ok (.iconst 1, 1) := by decide +kernel
theorem dX10_bars_25 : decode cX10_bars 25 = .ok (.goto 4, 3) := by decide +kernel
theorem dX10_bars_28 : decode cX10_bars 28 = .ok (.iconst 0, 1) := by decide +kernel
theorem dX10_bars_29 : decode cX10_bars 29 = .ok (.ireturn, 1) := by decide +kernel
theorem dX10_firstBar_0 : decode cX10_firstBar 0 = .ok (.iconst 0, 1) := by decide +kernel
theorem dX10_firstBar_1 : decode cX10_firstBar 1 = .ok (.istore_n 1, 1) := by decide +kernel
theorem dX10_firstBar_2 : decode cX10_firstBar 2 = .ok (.iload_n 1, 1) := by decide +kernel
theorem dX10_firstBar_3 : decode cX10_firstBar 3 = .ok (.bipush 6, 2) := by decide +kernel
theorem dX10_firstBar_5 : decode cX10_firstBar 5 = .ok (.if_icmp .ge 29, 3) := by decide +kernel
theorem dX10_firstBar_8 : decode cX10_firstBar 8 = .ok (.aload_n 0, 1) := by decide +kernel
theorem dX10_firstBar_9 : decode cX10_firstBar 9 = .ok (.aload_n 0, 1) := by decide +kernel
theorem dX10_firstBar_10 : decode cX10_firstBar 10 = .ok (.getfield 56, 3) := by decide +kernel
theorem dX10_firstBar_13 : decode cX10_firstBar 13 = .ok (.iload_n 1, 1) := by decide +kernel
theorem dX10_firstBar_14 : decode cX10_firstBar 14 = .ok (.iaload, 1) := by decide +kernel
theorem dX10_firstBar_15 : decode cX10_firstBar 15 = .ok (.invokevirtual 177, 3) := by decide +kernel
theorem dX10_firstBar_18 : decode cX10_firstBar 18 = .ok (.ifCond .eq 10, 3) := by decide +kernel
theorem dX10_firstBar_21 : decode cX10_firstBar 21 = .ok (.aload_n 0, 1) := by decide +kernel
theorem dX10_firstBar_22 : decode cX10_firstBar 22 = .ok (.getfield 56, 3) := by decide +kernel
theorem dX10_firstBar_25 : decode cX10_firstBar 25 = .ok (.iload_n 1, 1) := by decide +kernel
theorem dX10_firstBar_26 : decode cX10_firstBar 26 = .ok (.iaload, 1) := by decide +kernel
theorem dX10_firstBar_27 : decode cX10_firstBar 27 = .ok (.ireturn, 1) := by decide +kernel
theorem dX10_firstBar_28 : decode cX10_firstBar 28 = .ok (.iinc 1 1, 3) := by decide +kernel
theorem dX10_firstBar_31 : decode cX10_firstBar 31 = .ok (.goto (-29), 3) := by decide +kernel
theorem dX10_firstBar_34 : decode cX10_firstBar 34 = .ok (.bipush (-5), 2) := by decide +kernel
theorem dX10_firstBar_36 : decode cX10_firstBar 36 = .ok (.ireturn, 1) := by decide +kernel
theorem dX10_prime_0 : decode cX10_prime 0 = .ok (.iload_n 1, 1) := by decide +kernel
theorem dX10_prime_1 : decode cX10_prime 1 = .ok (.i2l, 1) := by decide +kernel
theorem dX10_prime_2 : decode cX10_prime 2 = .ok (.lconst 0, 1) := by decide +kernel
theorem dX10_prime_3 : decode cX10_prime 3 = .ok (.ldc2_w 180, 3) := by decide +kernel
theorem dX10_prime_6 : decode cX10_prime 6 = .ok (.invokestatic 96, 3) := by decide +kernel
theorem dX10_prime_9 : decode cX10_prime 9 = .ok (.ifCond .eq 15, 3) := by decide +kernel
theorem dX10_prime_12 : decode cX10_prime 12 = .ok (.iload_n 2, 1) := by decide +kernel
theorem dX10_prime_13 : decode cX10_prime 13 = .ok (.i2l, 1) := by decide +kernel
theorem dX10_prime_14 : decode cX10_prime 14 = .ok (.lconst 0, 1) := by decide +kernel
theorem dX10_prime_15 : decode cX10_prime 15 = .ok (.ldc2_w 100, 3) := by decide +kernel
theorem dX10_prime_18 : decode cX10_prime 18 = .ok (.invokestatic 96, 3) := by decide +kernel
theorem dX10_prime_21 : decode cX10_prime 21 = .ok (.ifCond .ne 5, 3) := by decide +kernel
theorem dX10_prime_24 : decode cX10_prime 24 = .ok (.iconst (-1), 1) := by decide +kernel
theorem dX10_prime_25 : decode cX10_prime 25 = .ok (.ireturn, 1) := by decide +kernel
theorem dX10_prime_26 : decode cX10_prime 26 = .ok (.aload_n 0, 1) := by decide +kernel
theorem dX10_prime_27 : decode cX10_prime 27 = .ok (.getfield 56, 3) := by decide +kernel
theorem dX10_prime_30 : decode cX10_prime 30 = .ok (.iload_n 1, 1) := by decide +kernel
theorem dX10_prime_31 : decode cX10_prime 31 = .ok (.iaload, 1) := by decide +kernel
theorem dX10_prime_32 : decode cX10_prime 32 = .ok (.istore_n 3, 1) := by decide +kernel
theorem dX10_prime_33 : decode cX10_prime 33 = .ok (.iload_n 2, 1) := by decide +kernel
theorem dX10_prime_34 : decode cX10_prime 34 = .ok (.ifCond .ne 7, 3) := by decide +kernel
theorem dX10_prime_37 : decode cX10_prime 37 = .ok (.iload_n 3, 1) := by decide +kernel
theorem dX10_prime_38 : decode cX10_prime 38 = .ok (.goto 29, 3) := by decide +kernel
theorem dX10_prime_41 : decode cX10_prime 41 = .ok (.iload_n 2, 1) := by decide +kernel
theorem dX10_prime_42 : decode cX10_prime 42 = .ok (.iconst 1, 1) := by decide +kernel
theorem dX10_prime_43 : decode cX10_prime 43 = .ok (.if_icmp .ne 11, 3) := by decide +kernel
theorem dX10_prime_46 : decode cX10_prime 46 = .ok (.aload_n 0, 1) := by decide +kernel
theorem dX10_prime_47 : decode cX10_prime 47 = .ok (.iload_n 3, 1) := by decide +kernel
theorem dX10_prime_48 : decode cX10_prime 48 = .ok (.invokevirtual 174, 3) := by decide +kernel
theorem dX10_prime_51 : decode cX10_prime 51 = .ok (.goto 16, 3) := by decide +kernel
theorem dX10_prime_54 : decode cX10_prime 54 = .ok (.aload_n 0, 1) := by decide +kernel
theorem dX10_prime_55 : decode cX10_prime 55 = .ok (.iload_n 3, 1) := by decide +kernel
theorem dX10_prime_56 : decode cX10_prime 56 = .ok (.invokevirtual 177, 3) := by decide +kernel
theorem dX10_prime_59 : decode cX10_prime 59 = .ok (.ifCond .eq 7, 3) := by decide +kernel
theorem dX10_prime_62 : decode cX10_prime 62 = .ok (.iconst 1, 1) := by decide +kernel
theorem dX10_prime_63 : decode cX10_prime 63 = .ok (.goto 4, 3) := by decide +kernel
theorem dX10_prime_66 : decode cX10_prime 66 = .ok (.iconst 0, 1) := by decide +kernel
theorem dX10_prime_67 : decode cX10_prime 67 = .ok (.ireturn, 1) := by decide +kernel
theorem dX10_reason_0 : decode cX10_reason 0 = .ok (.iload_n 1, 1) := by decide +kernel
theorem dX10_reason_1 : decode cX10_reason 1 = .ok (.ifCond .ge 5, 3) := by decide +kernel
theorem dX10_reason_4 : decode cX10_reason 4 = .ok (.iconst (-1), 1) := by decide +kernel
theorem dX10_reason_5 : decode cX10_reason 5 = .ok (.ireturn, 1) := by decide +kernel
theorem dX10_reason_6 : decode cX10_reason 6 = .ok (.aload_n 0, 1) := by decide +kernel
theorem dX10_reason_7 : decode cX10_reason 7 = .ok (.invokevirtual 157, 3) := by decide +kernel
theorem dX10_reason_10 : decode cX10_reason 10 = .ok (.aload_n 0, 1) := by decide +kernel
theorem dX10_reason_11 : decode cX10_reason 11 = .ok (.invokevirtual 182, 3) := by decide +kernel
theorem dX10_reason_14 : decode cX10_reason 14 = .ok (.istore_n 2, 1) := by decide +kernel
theorem dX10_reason_15 : decode cX10_reason 15 = .ok (.aload_n 0, 1) := by decide +kernel
theorem dX10_reason_16 : decode cX10_reason 16 = .ok (.getfield 143, 3) := by decide +kernel
theorem dX10_reason_19 : decode cX10_reason 19 = .ok (.ifCond .gt 18, 3) := by decide +kernel
theorem dX10_reason_22 : decode cX10_reason 22 = .ok (.iload_n 1, 1) := by decide +kernel
theorem dX10_reason_23 : decode cX10_reason 23 = .ok (.iconst 2, 1) := by decide +kernel
theorem dX10_reason_24 : decode cX10_reason 24 = .ok (.if_icmp .gt 13, 3) := by decide +kernel
theorem dX10_reason_27 : decode cX10_reason 27 = .ok (.iload_n 1, 1) := by decide +kernel
theorem dX10_reason_28 : decode cX10_reason 28 = .ok (.ifCond .le 12, 3) := by decide +kernel
theorem dX10_reason_31 : decode cX10_reason 31 = .ok (.iload_n 2, 1) := by decide +kernel
theorem dX10_reason_32 : decode cX10_reason 32 = .ok (.bipush (-5), 2) := by decide +kernel
theorem dX10_reason_34 : decode cX10_reason 34 = .ok (.if_icmp .ne 6, 3) := by decide +kernel
theorem dX10_reason_37 : decode cX10_reason 37 = .ok (.bipush (-5), 2) := by decide +kernel
theorem dX10_reason_39 : decode cX10_reason 39 = .ok (.ireturn, 1) := by decide +kernel
theorem dX10_reason_40 : decode cX10_reason 40 = .ok (.iload_n 1, 1) := by decide +kernel
theorem dX10_reason_41 : decode cX10_reason 41 = .ok (.ifCond .ne 10, 3) := by decide +kernel
theorem dX10_reason_44 : decode cX10_reason 44 = .ok (.aload_n 0, 1) := by decide +kernel
theorem dX10_reason_45 : decode cX10_reason 45 = .ok (.getfield 22, 3) := by decide +kernel
theorem dX10_reason_48 : decode cX10_reason 48 = .ok (.goto 17, 3) := by decide +kernel
theorem dX10_reason_51 : decode cX10_reason 51 = .ok (.iload_n 1, 1) := by decide +kernel
theorem dX10_reason_52 : decode cX10_reason 52 = .ok (.iconst 1, 1) := by decide +kernel
theorem dX10_reason_53 : decode cX10_reason 53 = .ok (.if_icmp .ne 7, 3) := by decide +kernel
theorem dX10_reason_56 : decode cX10_reason 56 = .ok (.iload_n 2, 1) := by decide +kernel
theorem dX10_reason_57 : decode cX10_reason 57 = .ok (.goto 8, 3) := by decide +kernel
theorem dX10_reason_60 : decode cX10_reason 60 = .ok (.aload_n 0, 1) := by decide +kernel
theorem dX10_reason_61 : decode cX10_reason 61 = .ok (.iload_n 2, 1) := by decide +kernel
theorem dX10_reason_62 : decode cX10_reason 62 = .ok (.invokevirtual 174, 3) := by decide +kernel
theorem dX10_reason_65 : decode cX10_reason 65 = .ok (.ireturn, 1) := by decide +kernel
theorem dX10_rowAt_0 : decode cX10_rowAt 0 = .ok (.lconst 0, 1) := by decide +kernel
theorem dX10_rowAt_1 : decode cX10_rowAt 1 = .ok (.lstore_n 3, 1) := by decide +kernel
theorem dX10_rowAt_2 : decode cX10_rowAt 2 = .ok (.iconst 0, 1) := by decide +kernel
theorem dX10_rowAt_3 : decode cX10_rowAt 3 = .ok (.istore 5, 2) := by decide +kernel
theorem dX10_rowAt_5 : decode cX10_rowAt 5 = .ok (.iload 5, 2) := by decide +kernel
theorem dX10_rowAt_7 : decode cX10_rowAt 7 = .ok (.aload_n 0, 1) := by decide +kernel
theorem dX10_rowAt_8 : decode cX10_rowAt 8 = .ok (.getfield 9, 3) := by decide +kernel
theorem dX10_rowAt_11 : decode cX10_rowAt 11 = .ok (.if_icmp .gt 21, 3) := by decide +kernel
theorem dX10_rowAt_14 : decode cX10_rowAt 14 = .ok (.lload_n 3, 1) := by decide +kernel
theorem dX10_rowAt_15 : decode cX10_rowAt 15 = .ok (.lload_n 1, 1) := by decide +kernel
theorem dX10_rowAt_16 : decode cX10_rowAt 16 = .ok (.lmul, 1) := by decide +kernel
theorem dX10_rowAt_17 : decode cX10_rowAt 17 = .ok (.aload_n 0, 1) := by decide +kernel
theorem dX10_rowAt_18 : decode cX10_rowAt 18 = .ok (.getfield 63, 3) := by decide +kernel
theorem dX10_rowAt_21 : decode cX10_rowAt 21 = .ok (.iload 5, 2) := by decide +kernel
theorem dX10_rowAt_23 : decode cX10_rowAt 23 = .ok (.laload, 1) := by decide +kernel
theorem dX10_rowAt_24 : decode cX10_rowAt 24 = .ok (.ladd, 1) := by decide +kernel
theorem dX10_rowAt_25 : decode cX10_rowAt 25 = .ok (.lstore_n 3, 1) := by decide +kernel
theorem dX10_rowAt_26 : decode cX10_rowAt 26 = .ok (.iinc 5 1, 3) := by decide +kernel
theorem dX10_rowAt_29 : decode cX10_rowAt 29 = .ok (.goto (-24), 3) := by decide +kernel
theorem dX10_rowAt_32 : decode cX10_rowAt 32 = .ok (.lload_n 3, 1) := by decide +kernel
theorem dX10_rowAt_33 : decode cX10_rowAt 33 = .ok (.lreturn, 1) := by decide +kernel
theorem dX10_greatest_0 : decode cX10_greatest 0 = .ok (.bipush 99, 2) := by decide +kernel
theorem dX10_greatest_2 : decode cX10_greatest 2 = .ok (.istore_n 2, 1) := by decide +kernel
theorem dX10_greatest_3 : decode cX10_greatest 3 = .ok (.iload_n 2, 1) := by decide +kernel
theorem dX10_greatest_4 : decode cX10_greatest 4 = .ok (.iload_n 1, 1) := by decide +kernel
theorem dX10_greatest_5 : decode cX10_greatest 5 = .ok (.if_icmp .lt 60, 3) := by decide +kernel
theorem dX10_greatest_8 : decode cX10_greatest 8 = .ok (.aload_n 0, 1) := by decide +kernel
theorem dX10_greatest_9 : decode cX10_greatest 9 = .ok (.iload_n 2, 1) := by decide +kernel
theorem dX10_greatest_10 : decode cX10_greatest 10 = .ok (.i2l, 1) := by decide +kernel
theorem dX10_greatest_11 : decode cX10_greatest 11 = .ok (.invokevirtual 186, 3) := by decide +kernel
theorem dX10_greatest_14 : decode cX10_greatest 14 = .ok (.lstore_n 3, 1) := by decide +kernel
theorem dX10_greatest_15 : decode cX10_greatest 15 = .ok (.aload_n 0, 1) := by decide +kernel
theorem dX10_greatest_16 : decode cX10_greatest 16 = .ok (.iload_n 2, 1) := by decide +kernel
theorem dX10_greatest_17 : decode cX10_greatest 17 = .ok (.iconst 1, 1) := by decide +kernel
theorem dX10_greatest_18 : decode cX10_greatest 18 = .ok (.iadd, 1) := by decide +kernel
theorem dX10_greatest_19 : decode cX10_greatest 19 = .ok (.i2l, 1) := by decide +kernel
theorem dX10_greatest_20 : decode cX10_greatest 20 = .ok (.invokevirtual 186, 3) := by decide +kernel
theorem dX10_greatest_23 : decode cX10_greatest 23 = .ok (.lstore 5, 2) := by decide +kernel
theorem dX10_greatest_25 : decode cX10_greatest 25 = .ok (.lload_n 3, 1) := by decide +kernel
theorem dX10_greatest_26 : decode cX10_greatest 26 = .ok (.lconst 0, 1) := by decide +kernel
theorem dX10_greatest_27 : decode cX10_greatest 27 = .ok (.lcmp, 1) := by decide +kernel
theorem dX10_greatest_28 : decode cX10_greatest 28 = .ok (.ifCond .eq 29, 3) := by decide +kernel
theorem dX10_greatest_31 : decode cX10_greatest 31 = .ok (.lload_n 3, 1) := by decide +kernel
theorem dX10_greatest_32 : decode cX10_greatest 32 = .ok (.lconst 0, 1) := by decide +kernel
theorem dX10_greatest_33 : decode cX10_greatest 33 = .ok (.lcmp, 1) := by decide +kernel
theorem dX10_greatest_34 : decode cX10_greatest 34 = .ok (.ifCond .le 10, 3) := by decide +kernel
theorem dX10_greatest_37 : decode cX10_greatest 37 = .ok (.lload 5, 2) := by decide +kernel
theorem dX10_greatest_39 : decode cX10_greatest 39 = .ok (.lconst 0, 1) := by decide +kernel
theorem dX10_greatest_40 : decode cX10_greatest 40 = .ok (.lcmp, 1) := by decide +kernel
theorem dX10_greatest_41 : decode cX10_greatest 41 = .ok (.ifCond .lt 16, 3) := by decide +kernel
theorem dX10_greatest_44 : decode cX10_greatest 44 = .ok (.lload_n 3, 1) := by decide +kernel
theorem dX10_greatest_45 : decode cX10_greatest 45 = .ok (.lconst 0, 1) := by decide +kernel
theorem dX10_greatest_46 : decode cX10_greatest 46 = .ok (.lcmp, 1) := by decide +kernel
theorem dX10_greatest_47 : decode cX10_greatest 47 = .ok (.ifCond .ge 12, 3) := by decide +kernel
theorem dX10_greatest_50 : decode cX10_greatest 50 = .ok (.lload 5, 2) := by decide +kernel
theorem dX10_greatest_52 : decode cX10_greatest 52 = .ok (.lconst 0, 1) := by decide +kernel
theorem dX10_greatest_53 : decode cX10_greatest 53 = .ok (.lcmp, 1) := by decide +kernel
theorem dX10_greatest_54 : decode cX10_greatest 54 = .ok (.ifCond .le 5, 3) := by decide +kernel
theorem dX10_greatest_57 : decode cX10_greatest 57 = .ok (.iload_n 2, 1) := by decide +kernel
theorem dX10_greatest_58 : decode cX10_greatest 58 = .ok (.ireturn, 1) := by decide +kernel
theorem dX10_greatest_59 : decode cX10_greatest 59 = .ok (.iinc 2 (-1), 3) := by decide +kernel
theorem dX10_greatest_62 : decode cX10_greatest 62 = .ok (.goto (-59), 3) := by decide +kernel
theorem dX10_greatest_65 : decode cX10_greatest 65 = .ok (.iconst (-1), 1) := by decide +kernel
theorem dX10_greatest_66 : decode cX10_greatest 66 = .ok (.ireturn, 1) := by decide +kernel
theorem dX10_goesOn_0 : decode cX10_goesOn 0 = .ok (.iconst 0, 1) := by decide +kernel
theorem dX10_goesOn_1 : decode cX10_goesOn 1 = .ok (.istore_n 2, 1) := by decide +kernel
theorem dX10_goesOn_2 : decode cX10_goesOn 2 = .ok (.iload_n 2, 1) := by decide +kernel
theorem dX10_goesOn_3 : decode cX10_goesOn 3 = .ok (.aload_n 0, 1) := by decide +kernel
theorem dX10_goesOn_4 : decode cX10_goesOn 4 = .ok (.getfield 9, 3) := by decide +kernel
theorem dX10_goesOn_7 : decode cX10_goesOn 7 = .ok (.if_icmp .gt 16, 3) := by decide +kernel
theorem dX10_goesOn_10 : decode cX10_goesOn 10 = .ok (.aload_n 0, 1) := by decide +kernel
theorem dX10_goesOn_11 : decode cX10_goesOn 11 = .ok (.getfield 66, 3) := by decide +kernel
theorem dX10_goesOn_14 : decode cX10_goesOn 14 = .ok (.iload_n 2, 1) := by decide +kernel
theorem dX10_goesOn_15 : decode cX10_goesOn 15 = .ok (.lconst 0, 1) := by decide +kernel
theorem dX10_goesOn_16 : decode cX10_goesOn 16 = .ok (.lastore, 1) := by decide +kernel
theorem dX10_goesOn_17 : decode cX10_goesOn 17 = .ok (.iinc 2 1, 3) := by decide +kernel
theorem dX10_goesOn_20 : decode cX10_goesOn 20 = .ok (.goto (-18), 3) := by decide +kernel
theorem dX10_goesOn_23 : decode cX10_goesOn 23 = .ok (.iconst 0, 1) := by decide +kernel
theorem dX10_goesOn_24 : decode cX10_goesOn 24 = .ok (.istore_n 2, 1) := by decide +kernel
theorem dX10_goesOn_25 : decode cX10_goesOn 25 = .ok (.iload_n 2, 1) := by decide +kernel
theorem dX10_goesOn_26 : decode cX10_goesOn 26 = .ok (.aload_n 0, 1) := by decide +kernel
theorem dX10_goesOn_27 : decode cX10_goesOn 27 = .ok (.getfield 9, 3) := by decide +kernel
theorem dX10_goesOn_30 : decode cX10_goesOn 30 = .ok (.if_icmp .gt 61, 3) := by decide +kernel
theorem dX10_goesOn_33 : decode cX10_goesOn 33 = .ok (.aload_n 0, 1) := by decide +kernel
theorem dX10_goesOn_34 : decode cX10_goesOn 34 = .ok (.getfield 9, 3) := by decide +kernel
theorem dX10_goesOn_37 : decode cX10_goesOn 37 = .ok (.istore_n 3, 1) := by decide +kernel
theorem dX10_goesOn_38 : decode cX10_goesOn 38 = .ok (.iload_n 3, 1) := by decide +kernel
theorem dX10_goesOn_39 : decode cX10_goesOn 39 = .ok (.ifCond .lt 46, 3) := by decide +kernel
theorem dX10_goesOn_42 : decode cX10_goesOn 42 = .ok (.aload_n 0, 1) := by decide +kernel
theorem dX10_goesOn_43 : decode cX10_goesOn 43 = .ok (.getfield 66, 3) := by decide +kernel
theorem dX10_goesOn_46 : decode cX10_goesOn 46 = .ok (.iload_n 3, 1) := by decide +kernel
theorem dX10_goesOn_47 : decode cX10_goesOn 47 = .ok (.iload_n 1, 1) := by decide +kernel
theorem dX10_goesOn_48 : decode cX10_goesOn 48 = .ok (.i2l, 1) := by decide +kernel
theorem dX10_goesOn_49 : decode cX10_goesOn 49 = .ok (.aload_n 0, 1) := by decide +kernel
theorem dX10_goesOn_50 : decode cX10_goesOn 50 = .ok (.getfield 66, 3) := by decide +kernel
theorem dX10_goesOn_53 : decode cX10_goesOn 53 = .ok (.iload_n 3, 1) := by decide +kernel
theorem dX10_goesOn_54 : decode cX10_goesOn 54 = .ok (.laload, 1) := by decide +kernel
theorem dX10_goesOn_55 : decode cX10_goesOn 55 = .ok (.lmul, 1) := by decide +kernel
theorem dX10_goesOn_56 : decode cX10_goesOn 56 = .ok (.iload_n 3, 1) := by decide +kernel
theorem dX10_goesOn_57 : decode cX10_goesOn 57 = .ok (.ifCond .le 14, 3) := by decide +kernel
theorem dX10_goesOn_60 : decode cX10_goesOn 60 = .ok (.aload_n 0, 1) := by decide +kernel
theorem dX10_goesOn_61 : decode cX10_goesOn 61 = .ok (.getfield 66, 3) := by decide +kernel
theorem dX10_goesOn_64 : decode cX10_goesOn 64 = .ok (.iload_n 3, 1) := by decide +kernel
theorem dX10_goesOn_65 : decode cX10_goesOn 65 = .ok (.iconst 1, 1) := by decide +kernel
theorem dX10_goesOn_66 : decode cX10_goesOn 66 = .ok (.isub, 1) := by decide +kernel
theorem dX10_goesOn_67 : decode cX10_goesOn 67 = .ok (.laload, 1) := by decide +kernel
theorem dX10_goesOn_68 : decode cX10_goesOn 68 = .ok (.goto 9, 3) := by decide +kernel
theorem dX10_goesOn_71 : decode cX10_goesOn 71 = .ok (.aload_n 0, 1) := by decide +kernel
theorem dX10_goesOn_72 : decode cX10_goesOn 72 = .ok (.getfield 63, 3) := by decide +kernel
theorem dX10_goesOn_75 : decode cX10_goesOn 75 = .ok (.iload_n 2, 1) := by decide +kernel
theorem dX10_goesOn_76 : decode cX10_goesOn 76 = .ok (.laload, 1) := by decide +kernel
theorem dX10_goesOn_77 : decode cX10_goesOn 77 = .ok (.ladd, 1) := by decide +kernel
theorem dX10_goesOn_78 : decode cX10_goesOn 78 = .ok (.lastore, 1) := by decide +kernel
theorem dX10_goesOn_79 : decode cX10_goesOn 79 = .ok (.iinc 3 (-1), 3) := by decide +kernel
theorem dX10_goesOn_82 : decode cX10_goesOn 82 = .ok (.goto (-44), 3) := by decide +kernel
theorem dX10_goesOn_85 : decode cX10_goesOn 85 = .ok (.iinc 2 1, 3) := by decide +kernel
theorem dX10_goesOn_88 : decode cX10_goesOn 88 = .ok (.goto (-63), 3) := by decide +kernel
theorem dX10_goesOn_91 : decode cX10_goesOn 91 = .ok (.iconst 1, 1) := by decide +kernel
theorem dX10_goesOn_92 : decode cX10_goesOn 92 = .ok (.istore_n 2, 1) := by decide +kernel
theorem dX10_goesOn_93 : decode cX10_goesOn 93 = .ok (.iconst 0, 1) := by decide +kernel
theorem dX10_goesOn_94 : decode cX10_goesOn 94 = .ok (.istore_n 3, 1) := by decide +kernel
theorem dX10_goesOn_95 : decode cX10_goesOn 95 = .ok (.iload_n 3, 1) := by decide +kernel
theorem dX10_goesOn_96 : decode cX10_goesOn 96 = .ok (.aload_n 0, 1) := by decide +kernel
theorem dX10_goesOn_97 : decode cX10_goesOn 97 = .ok (.getfield 9, 3) := by decide +kernel
theorem dX10_goesOn_100 : decode cX10_goesOn 100 = .ok (.if_icmp .gt 39, 3) := by decide +kernel
theorem dX10_goesOn_103 : decode cX10_goesOn 103 = .ok (.aload_n 0, 1) := by decide +kernel
theorem dX10_goesOn_104 : decode cX10_goesOn 104 = .ok (.getfield 63, 3) := by decide +kernel
theorem dX10_goesOn_107 : decode cX10_goesOn 107 = .ok (.iload_n 3, 1) := by decide +kernel
theorem dX10_goesOn_108 : decode cX10_goesOn 108 = .ok (.aload_n 0, 1) := by decide +kernel
theorem dX10_goesOn_109 : decode cX10_goesOn 109 = .ok (.getfield 66, 3) := by decide +kernel
theorem dX10_goesOn_112 : decode cX10_goesOn 112 = .ok (.iload_n 3, 1) := by decide +kernel
theorem dX10_goesOn_113 : decode cX10_goesOn 113 = .ok (.laload, 1) := by decide +kernel
theorem dX10_goesOn_114 : decode cX10_goesOn 114 = .ok (.lastore, 1) := by decide +kernel
theorem dX10_goesOn_115 : decode cX10_goesOn 115 = .ok (.iload_n 2, 1) := by decide +kernel
theorem dX10_goesOn_116 : decode cX10_goesOn 116 = .ok (.aload_n 0, 1) := by decide +kernel
theorem dX10_goesOn_117 : decode cX10_goesOn 117 = .ok (.getfield 63, 3) := by decide +kernel
theorem dX10_goesOn_120 : decode cX10_goesOn 120 = .ok (.iload_n 3, 1) := by decide +kernel
theorem dX10_goesOn_121 : decode cX10_goesOn 121 = .ok (.laload, 1) := by decide +kernel
theorem dX10_goesOn_122 : decode cX10_goesOn 122 = .ok (.ldc2_w 190, 3) := by decide +kernel
theorem dX10_goesOn_125 : decode cX10_goesOn 125 = .ok (.ldc2_w 192, 3) := by decide +kernel
theorem dX10_goesOn_128 : decode cX10_goesOn 128 = .ok (.invokestatic 96, 3) := by decide +kernel
theorem dX10_goesOn_131 : decode cX10_goesOn 131 = .ok (.iand, 1) := by decide +kernel
theorem dX10_goesOn_132 : decode cX10_goesOn 132 = .ok (.istore_n 2, 1) := by decide +kernel
theorem dX10_goesOn_133 : decode cX10_goesOn 133 = .ok (.iinc 3 1, 3) := by decide +kernel
theorem dX10_goesOn_136 : decode cX10_goesOn 136 = .ok (.goto (-41), 3) := by decide +kernel
theorem dX10_goesOn_139 : decode cX10_goesOn 139 = .ok (.iload_n 2, 1) := by decide +kernel
theorem dX10_goesOn_140 : decode cX10_goesOn 140 = .ok (.ireturn, 1) := by decide +kernel
theorem dX10_tellsParts_0 : decode cX10_tellsParts 0 = .ok (.iconst 0, 1) := by decide +kernel
theorem dX10_tellsParts_1 : decode cX10_tellsParts 1 = .ok (.istore_n 1, 1) := by decide +kernel
theorem dX10_tellsParts_2 : decode cX10_tellsParts 2 = .ok (.iload_n 1, 1) := by decide +kernel
theorem dX10_tellsParts_3 : decode cX10_tellsParts 3 = .ok (.aload_n 0, 1) := by decide +kernel
theorem dX10_tellsParts_4 : decode cX10_tellsParts 4 = .ok (.getfield 9, 3) := by decide +kernel
theorem dX10_tellsParts_7 : decode cX10_tellsParts 7 = .ok (.if_icmp .gt 21, 3) := by decide +kernel
theorem dX10_tellsParts_10 : decode cX10_tellsParts 10 = .ok (.aload_n 0, 1) := by decide +kernel
theorem dX10_tellsParts_11 : decode cX10_tellsParts 11 = .ok (.getfield 63, 3) := by decide +kernel
theorem dX10_tellsParts_14 : decode cX10_tellsParts 14 = .ok (.iload_n 1, 1) := by decide +kernel
theorem dX10_tellsParts_15 : decode cX10_tellsParts 15 = .ok (.aload_n 0, 1) := by decide +kernel
theorem dX10_tellsParts_16 : decode cX10_tellsParts 16 = .ok (.getfield 15, 3) := by decide +kernel
theorem dX10_tellsParts_19 : decode cX10_tellsParts 19 = .ok (.iload_n 1, 1) := by decide +kernel
theorem dX10_tellsParts_20 : decode cX10_tellsParts 20 = .ok (.laload, 1) := by decide +kernel
theorem dX10_tellsParts_21 : decode cX10_tellsParts 21 = .ok (.lastore, 1) := by decide +kernel
theorem dX10_tellsParts_22 : decode cX10_tellsParts 22 = .ok (.iinc 1 1, 3) := by decide +kernel
theorem dX10_tellsParts_25 : decode cX10_tellsParts 25 = .ok (.goto (-23), 3) := by decide +kernel
theorem dX10_tellsParts_28 : decode cX10_tellsParts 28 = .ok (.aload_n 0, 1) := by decide +kernel
theorem dX10_tellsParts_29 : decode cX10_tellsParts 29 = .ok (.iconst 0, 1) := by decide +kernel
theorem dX10_tellsParts_30 : decode cX10_tellsParts 30 = .ok (.putfield 194, 3) := by decide +kernel
theorem dX10_tellsParts_33 : decode cX10_tellsParts 33 = .ok (.iconst 1, 1) := by decide +kernel
theorem dX10_tellsParts_34 : decode cX10_tellsParts 34 = .ok (.istore_n 1, 1) := by decide +kernel
theorem dX10_tellsParts_35 : decode cX10_tellsParts 35 = .ok (.iload_n 1, 1) := by decide +kernel
theorem dX10_tellsParts_36 : decode cX10_tellsParts 36 = .ok (.ifCond .eq 91, 3) := by decide +kernel
theorem dX10_tellsParts_39 : decode cX10_tellsParts 39 = .ok (.aload_n 0, 1) := by decide +kernel
theorem dX10_tellsParts_40 : decode cX10_tellsParts 40 = .ok (.getfield 194, 3) := by decide +kernel
theorem dX10_tellsParts_43 : decode cX10_tellsParts 43 = .ok (.bipush 8, 2) := by decide +kernel
theorem dX10_tellsParts_45 : decode cX10_tellsParts 45 = .ok (.if_icmp .ge 82, 3) := by decide +kernel
theorem dX10_tellsParts_48 : decode cX10_tellsParts 48 = .ok (.aload_n 0, 1) := by decide +kernel
theorem dX10_tellsParts_49 : decode cX10_tellsParts 49 = .ok (.aload_n 0, 1) := by decide +kernel
theorem dX10_tellsParts_50 : decode cX10_tellsParts 50 = .ok (.getfield 194, 3) := by decide +kernel
theorem dX10_tellsParts_53 : decode cX10_tellsParts 53 = .ok (.ifCond .ne 7, 3) := by decide +kernel
theorem dX10_tellsParts_56 : decode cX10_tellsParts 56 = .ok (.iconst 0, 1) := by decide +kernel
theorem dX10_tellsParts_57 : decode cX10_tellsParts 57 = .ok (.goto 4, 3) := by decide +kernel
theorem dX10_tellsParts_60 : decode cX10_tellsParts 60 = .ok (.iconst 1, 1) := by decide +kernel
theorem dX10_tellsParts_61 : decode cX10_tellsParts 61 = .ok (.invokevirtual 197, 3) := by decide +kernel
theorem dX10_tellsParts_64 : decode cX10_tellsParts 64 = .ok (.istore_n 2, 1) := by decide +kernel
theorem dX10_tellsParts_65 : decode cX10_tellsParts 65 = .ok (.iload_n 2, 1) := by decide +kernel
theorem dX10_tellsParts_66 : decode cX10_tellsParts 66 = .ok (.ifCond .lt 7, 3) := by decide +kernel
theorem dX10_tellsParts_69 : decode cX10_tellsParts 69 = .ok (.iconst 1, 1) := by decide +kernel
theorem dX10_tellsParts_70 : decode cX10_tellsParts 70 = .ok (.goto 4, 3) := by decide +kernel
theorem dX10_tellsParts_73 : decode cX10_tellsParts 73 = .ok (.iconst 0, 1) := by decide +kernel
theorem dX10_tellsParts_74 : decode cX10_tellsParts 74 = .ok (.istore_n 1, 1) := by decide +kernel
theorem dX10_tellsParts_75 : decode cX10_tellsParts 75 = .ok (.iload_n 1, 1) := by decide +kernel
theorem dX10_tellsParts_76 : decode cX10_tellsParts 76 = .ok (.ifCond .eq 48, 3) := by decide +kernel
theorem dX10_tellsParts_79 : decode cX10_tellsParts 79 = .ok (.aload_n 0, 1) := by decide +kernel
theorem dX10_tellsParts_80 : decode cX10_tellsParts 80 = .ok (.getfield 69, 3) := by decide +kernel
theorem dX10_tellsParts_83 : decode cX10_tellsParts 83 = .ok (.aload_n 0, 1) := by decide +kernel
theorem dX10_tellsParts_84 : decode cX10_tellsParts 84 = .ok (.getfield 194, 3) := by decide +kernel
theorem dX10_tellsParts_87 : decode cX10_tellsParts 87 = .ok (.iload_n 2, 1) := by decide +kernel
theorem dX10_tellsParts_88 : decode cX10_tellsParts 88 = .ok (.iastore, 1) := by decide +kernel
theorem dX10_tellsParts_89 : decode cX10_tellsParts 89 = .ok (.aload_n 0, 1) := by decide +kernel
theorem dX10_tellsParts_90 : decode cX10_tellsParts 90 = .ok (.dup, 1) := by decide +kernel
theorem dX10_tellsParts_91 : decode cX10_tellsParts 91 = .ok (.getfield 194, 3) := by decide +kernel
theorem dX10_tellsParts_94 : decode cX10_tellsParts 94 = .ok (.iconst 1, 1) := by decide +kernel
theorem dX10_tellsParts_95 : decode cX10_tellsParts 95 = .ok (.iadd, 1) := by decide +kernel
theorem dX10_tellsParts_96 : decode cX10_tellsParts 96 = .ok (.putfield 194, 3) := by decide +kernel
theorem dX10_tellsParts_99 : decode cX10_tellsParts 99 = .ok (.aload_n 0, 1) := by decide +kernel
theorem dX10_tellsParts_100 : decode cX10_tellsParts 100 = .ok (.iload_n 2, 1) := by decide +kernel
theorem dX10_tellsParts_101 : decode cX10_tellsParts 101 = .ok (.i2l, 1) := by decide +kernel
theorem dX10_tellsParts_102 : decode cX10_tellsParts 102 = .ok (.invokevirtual 186, 3) := by decide +kernel
theorem dX10_tellsParts_105 : decode cX10_tellsParts 105 = .ok (.lconst 0, 1) := by decide +kernel
theorem dX10_tellsParts_106 : decode cX10_tellsParts 106 = .ok (.lcmp, 1) := by decide +kernel
theorem dX10_tellsParts_107 : decode cX10_tellsParts 107 = .ok (.ifCond .eq 15, 3) := by decide +kernel
theorem dX10_tellsParts_110 : decode cX10_tellsParts 110 = .ok (.aload_n 0, 1) := by decide +kernel
theorem dX10_tellsParts_111 : decode cX10_tellsParts 111 = .ok (.iload_n 2, 1) := by decide +kernel
theorem dX10_tellsParts_112 : decode cX10_tellsParts 112 = .ok (.invokevirtual 200, 3) := by decide +kernel
theorem dX10_tellsParts_115 : decode cX10_tellsParts 115 = .ok (.ifCond .eq 7, 3) := by decide +kernel
theorem dX10_tellsParts_118 : decode cX10_tellsParts 118 = .ok (.iconst 1, 1) := by decide +kernel
theorem dX10_tellsParts_119 : decode cX10_tellsParts 119 = .ok (.goto 4, 3) := by decide +kernel
theorem dX10_tellsParts_122 : decode cX10_tellsParts 122 = .ok (.iconst 0, 1) := by decide +kernel
theorem dX10_tellsParts_123 : decode cX10_tellsParts 123 = .ok (.istore_n 1, 1) := by decide +kernel
theorem dX10_tellsParts_124 : decode cX10_tellsParts 124 = .ok (.goto (-89), 3) := by decide +kernel
theorem dX10_tellsParts_127 : decode cX10_tellsParts 127 = .ok (.return_, 1) := by decide +kernel
theorem dX10_tellsConvergent_0 : decode cX10_tellsConvergent 0 = .ok (.aload_n 0, 1) := by decide +kernel
theorem dX10_tellsConvergent_1 : decode cX10_tellsConvergent 1 = .ok (.lconst 1, 1) := by decide +kernel
theorem dX10_tellsConvergent_2 : decode cX10_tellsConvergent 2 = .ok (.putfield 203, 3) := by decide +kernel
theorem dX10_tellsConvergent_5 : decode cX10_tellsConvergent 5 = .ok (.aload_n 0, 1) := by decide +kernel
theorem dX10_tellsConvergent_6 : decode cX10_tellsConvergent 6 = .ok (.lconst 0, 1) := by decide +kernel
theorem dX10_tellsConvergent_7 : decode cX10_tellsConvergent 7 = .ok (.putfield 207, 3) := by decide +kernel
theorem dX10_tellsConvergent_10 : decode cX10_tellsConvergent 10 = .ok (.lconst 0, 1) := by decide +kernel
theorem dX10_tellsConvergent_11 : decode cX10_tellsConvergent 11 = .ok (.lstore_n 2, 1) := by decide +kernel
theorem dX10_tellsConvergent_12 : decode cX10_tellsConvergent 12 = .ok (.lconst 1, 1) := by decide +kernel
theorem dX10_tellsConvergent_13 : decode cX10_tellsConvergent 13 = .ok (.lstore 4, 2) := by decide +kernel
theorem dX10_tellsConvergent_15 : decode cX10_tellsConvergent 15 = .ok (.iconst 0, 1) := by decide +kernel
theorem dX10_tellsConvergent_16 : decode cX10_tellsConvergent 16 = .ok (.istore 6, 2) := by decide +kernel
theorem dX10_tellsConvergent_18 : decode cX10_tellsConvergent 18 = .ok (.iload 6, 2) := by decide +kernel
theorem dX10_tellsConvergent_20 : decode cX10_tellsConvergent 20 = .ok (.iload_n 1, 1) := by decide +kernel
theorem dX10_tellsConvergent_21 : decode cX10_tellsConvergent 21 = .ok (.if_icmp .gt 67, 3) := by decide +kernel
theorem dX10_tellsConvergent_24 : decode cX10_tellsConvergent 24 = .ok (.aload_n 0, 1) := by decide +kernel
theorem dX10_tellsConvergent_25 : decode cX10_tellsConvergent 25 = .ok (.getfield 69, 3) := by decide +kernel
theorem dX10_tellsConvergent_28 : decode cX10_tellsConvergent 28 = .ok (.iload 6, 2) := by decide +kernel
theorem dX10_tellsConvergent_30 : decode cX10_tellsConvergent 30 = .ok (.iaload, 1) := by decide +kernel
theorem dX10_tellsConvergent_31 : decode cX10_tellsConvergent 31 = .ok (.i2l, 1) := by decide +kernel
theorem dX10_tellsConvergent_32 : decode cX10_tellsConvergent 32 = .ok (.aload_n 0, 1) := by decide +kernel
theorem dX10_tellsConvergent_33 : decode cX10_tellsConvergent 33 = .ok (.getfield 203, 3) := by decide +kernel
theorem dX10_tellsConvergent_36 : decode cX10_tellsConvergent 36 = .ok (.lmul, 1) := by decide +kernel
theorem dX10_tellsConvergent_37 : decode cX10_tellsConvergent 37 = .ok (.lload_n 2, 1) := by decide +kernel
theorem dX10_tellsConvergent_38 : decode cX10_tellsConvergent 38 = .ok (.ladd, 1) := by decide +kernel
theorem dX10_tellsConvergent_39 : decode cX10_tellsConvergent 39 = .ok (.lstore 7, 2) := by decide +kernel
theorem dX10_tellsConvergent_41 : decode cX10_tellsConvergent 41 = .ok (.aload_n 0, 1) := by decide +kernel
theorem dX10_tellsConvergent_42 : decode cX10_tellsConvergent 42 = .ok (.getfield 69, 3) := by decide +kernel
theorem dX10_tellsConvergent_45 : decode cX10_tellsConvergent 45 = .ok (.iload 6, 2) := by decide +kernel
theorem dX10_tellsConvergent_47 : decode cX10_tellsConvergent 47 = .ok (.iaload, 1) := by decide +kernel
theorem dX10_tellsConvergent_48 : decode cX10_tellsConvergent 48 = .ok (.i2l, 1) := by decide +kernel
theorem dX10_tellsConvergent_49 : decode cX10_tellsConvergent 49 = .ok (.aload_n 0, 1) := by decide +kernel
theorem dX10_tellsConvergent_50 : decode cX10_tellsConvergent 50 = .ok (.getfield 207, 3) := by decide +kernel
theorem dX10_tellsConvergent_53 : decode cX10_tellsConvergent 53 = .ok (.lmul, 1) := by decide +kernel
theorem dX10_tellsConvergent_54 : decode cX10_tellsConvergent 54 = .ok (.lload 4, 2) := by decide +kernel
theorem dX10_tellsConvergent_56 : decode cX10_tellsConvergent 56 = .ok (.ladd, 1) := by decide +kernel
theorem dX10_tellsConvergent_57 : decode cX10_tellsConvergent 57 = .ok (.lstore 9, 2) := by decide +kernel
theorem dX10_tellsConvergent_59 : decode cX10_tellsConvergent 59 = .ok (.aload_n 0, 1) := by decide +kernel
theorem dX10_tellsConvergent_60 : decode cX10_tellsConvergent 60 = .ok (.getfield 203, 3) := by decide +kernel
theorem dX10_tellsConvergent_63 : decode cX10_tellsConvergent 63 = .ok (.lstore_n 2, 1) := by decide +kernel
theorem dX10_tellsConvergent_64 : decode cX10_tellsConvergent 64 = .ok (.aload_n 0, 1) := by decide +kernel
theorem dX10_tellsConvergent_65 : decode cX10_tellsConvergent 65 = .ok (.getfield 207, 3) := by decide +kernel
theorem dX10_tellsConvergent_68 : decode cX10_tellsConvergent 68 = .ok (.lstore 4, 2) := by decide +kernel
theorem dX10_tellsConvergent_70 : decode cX10_tellsConvergent 70 = .ok (.aload_n 0, 1) := by decide +kernel
theorem dX10_tellsConvergent_71 : decode cX10_tellsConvergent 71 = .ok (.lload 7, 2) := by decide +kernel
theorem dX10_tellsConvergent_73 : decode cX10_tellsConvergent 73 = .ok (.putfield 203, 3) := by decide +kernel
theorem dX10_tellsConvergent_76 : decode cX10_tellsConvergent 76 = .ok (.aload_n 0, 1) := by decide +kernel
theorem dX10_tellsConvergent_77 : decode cX10_tellsConvergent 77 = .ok (.lload 9, 2) := by decide +kernel
theorem dX10_tellsConvergent_79 : decode cX10_tellsConvergent 79 = .ok (.putfield 207, 3) := by decide +kernel
theorem dX10_tellsConvergent_82 : decode cX10_tellsConvergent 82 = .ok (.iinc 6 1, 3) := by decide +kernel
theorem dX10_tellsConvergent_85 : decode cX10_tellsConvergent 85 = .ok (.goto (-67), 3) := by decide +kernel
theorem dX10_tellsConvergent_88 : decode cX10_tellsConvergent 88 = .ok (.return_, 1) := by decide +kernel
theorem dX10_part_0 : decode cX10_part 0 = .ok (.iload_n 1, 1) := by decide +kernel
theorem dX10_part_1 : decode cX10_part 1 = .ok (.ifCond .ge 5, 3) := by decide +kernel
theorem dX10_part_4 : decode cX10_part 4 = .ok (.iconst (-1), 1) := by decide +kernel
theorem dX10_part_5 : decode cX10_part 5 = .ok (.ireturn, 1) := by decide +kernel
theorem dX10_part_6 : decode cX10_part 6 = .ok (.aload_n 0, 1) := by decide +kernel
theorem dX10_part_7 : decode cX10_part 7 = .ok (.invokevirtual 210, 3) := by decide +kernel
theorem dX10_part_10 : decode cX10_part 10 = .ok (.iload_n 1, 1) := by decide +kernel
theorem dX10_part_11 : decode cX10_part 11 = .ok (.aload_n 0, 1) := by decide +kernel
theorem dX10_part_12 : decode cX10_part 12 = .ok (.getfield 194, 3) := by decide +kernel
theorem dX10_part_15 : decode cX10_part 15 = .ok (.if_icmp .ge 12, 3) := by decide +kernel
theorem dX10_part_18 : decode cX10_part 18 = .ok (.aload_n 0, 1) := by decide +kernel
theorem dX10_part_19 : decode cX10_part 19 = .ok (.getfield 69, 3) := by decide +kernel
theorem dX10_part_22 : decode cX10_part 22 = .ok (.iload_n 1, 1) := by decide +kernel
theorem dX10_part_23 : decode cX10_part 23 = .ok (.iaload, 1) := by decide +kernel
theorem dX10_part_24 : decode cX10_part 24 = .ok (.goto 5, 3) := by decide +kernel
theorem dX10_part_27 : decode cX10_part 27 = .ok (.bipush (-5), 2) := by decide +kernel
theorem dX10_part_29 : decode cX10_part 29 = .ok (.ireturn, 1) := by decide +kernel
theorem dX10_convergent_0 : decode cX10_convergent 0 = .ok (.iload_n 1, 1) := by decide +kernel
theorem dX10_convergent_1 : decode cX10_convergent 1 = .ok (.ifCond .lt 13, 3) := by decide +kernel
theorem dX10_convergent_4 : decode cX10_convergent 4 = .ok (.iload_n 2, 1) := by decide +kernel
theorem dX10_convergent_5 : decode cX10_convergent 5 = .ok (.i2l, 1) := by decide +kernel
theorem dX10_convergent_6 : decode cX10_convergent 6 = .ok (.lconst 0, 1) := by decide +kernel
theorem dX10_convergent_7 : decode cX10_convergent 7 = .ok (.lconst 1, 1) := by decide +kernel
theorem dX10_convergent_8 : decode cX10_convergent 8 = .ok (.invokestatic 96, 3) := by decide +kernel
theorem dX10_convergent_11 : decode cX10_convergent 11 = .ok (.ifCond .ne 7, 3) := by decide +kernel
theorem dX10_convergent_14 : decode cX10_convergent 14 = .ok (.ldc2_w 213, 3) := by decide +kernel
theorem dX10_convergent_17 : decode cX10_convergent 17 = .ok (.lreturn, 1) := by decide +kernel
theorem dX10_convergent_18 : decode cX10_convergent 18 = .ok (.aload_n 0, 1) := by decide +kernel
theorem dX10_convergent_19 : decode cX10_convergent 19 = .ok (.invokevirtual 210, 3) := by decide +kernel
theorem dX10_convergent_22 : decode cX10_convergent 22 = .ok (.iload_n 1, 1) := by decide +kernel
theorem dX10_convergent_23 : decode cX10_convergent 23 = .ok (.aload_n 0, 1) := by decide +kernel
theorem dX10_convergent_24 : decode cX10_convergent 24 = .ok (.getfield 194, 3) := by decide +kernel
theorem dX10_convergent_27 : decode cX10_convergent 27 = .ok (.if_icmp .lt 7, 3) := by decide +kernel
theorem dX10_convergent_30 : decode cX10_convergent 30 = .ok (.ldc2_w 213, 3) := by decide +kernel
theorem dX10_convergent_33 : decode cX10_convergent 33 = .ok (.lreturn, 1) := by decide +kernel
theorem dX10_convergent_34 : decode cX10_convergent 34 = .ok (.aload_n 0, 1) := by decide +kernel
theorem dX10_convergent_35 : decode cX10_convergent 35 = .ok (.iload_n 1, 1) := by decide +kernel
theorem dX10_convergent_36 : decode cX10_convergent 36 = .ok (.invokevirtual 215, 3) := by decide +kernel
theorem dX10_convergent_39 : decode cX10_convergent 39 = .ok (.iload_n 2, 1) := by decide +kernel
theorem dX10_convergent_40 : decode cX10_convergent 40 = .ok (.ifCond .ne 10, 3) := by decide +kernel
theorem dX10_convergent_43 : decode cX10_convergent 43 = .ok (.aload_n 0, 1) := by decide +kernel
theorem dX10_convergent_44 : decode cX10_convergent 44 = .ok (.getfield 203, 3) := by decide +kernel
theorem dX10_convergent_47 : decode cX10_convergent 47 = .ok (.goto 7, 3) := by decide +kernel
theorem dX10_convergent_50 : decode cX10_convergent 50 = .ok (.aload_n 0, 1) := by decide +kernel
theorem dX10_convergent_51 : decode cX10_convergent 51 = .ok (.getfield 207, 3) := by decide +kernel
theorem dX10_convergent_54 : decode cX10_convergent 54 = .ok (.lreturn, 1) := by decide +kernel
theorem dX10_answering_0 : decode cX10_answering 0 = .ok (.aload_n 0, 1) := by decide +kernel
theorem dX10_answering_1 : decode cX10_answering 1 = .ok (.invokevirtual 210, 3) := by decide +kernel
theorem dX10_answering_4 : decode cX10_answering 4 = .ok (.iconst 0, 1) := by decide +kernel
theorem dX10_answering_5 : decode cX10_answering 5 = .ok (.istore_n 1, 1) := by decide +kernel
theorem dX10_answering_6 : decode cX10_answering 6 = .ok (.iconst 0, 1) := by decide +kernel
theorem dX10_answering_7 : decode cX10_answering 7 = .ok (.istore_n 2, 1) := by decide +kernel
theorem dX10_answering_8 : decode cX10_answering 8 = .ok (.iload_n 2, 1) := by decide +kernel
theorem dX10_answering_9 : decode cX10_answering 9 = .ok (.aload_n 0, 1) := by decide +kernel
theorem dX10_answering_10 : decode cX10_answering 10 = .ok (.getfield 194, 3) := by decide +kernel
theorem dX10_answering_13 : decode cX10_answering 13 = .ok (.if_icmp .ge 85, 3) := by decide +kernel
theorem dX10_answering_16 : decode cX10_answering 16 = .ok (.aload_n 0, 1) := by decide +kernel
theorem dX10_answering_17 : decode cX10_answering 17 = .ok (.iload_n 2, 1) := by decide +kernel
theorem dX10_answering_18 : decode cX10_answering 18 = .ok (.invokevirtual 215, 3) := by decide +kernel
theorem dX10_answering_21 : decode cX10_answering 21 = .ok (.iload_n 1, 1) := by decide +kernel
theorem dX10_answering_22 : decode cX10_answering 22 = .ok (.aload_n 0, 1) := by decide +kernel
theorem dX10_answering_23 : decode cX10_answering 23 = .ok (.getfield 203, 3) := by decide +kernel
theorem dX10_answering_26 : decode cX10_answering 26 = .ok (.aload_n 0, 1) := by decide +kernel
theorem dX10_answering_27 : decode cX10_answering 27 = .ok (.getfield 22, 3) := by decide +kernel
theorem dX10_answering_30 : decode cX10_answering 30 = .ok (.ineg, 1) := by decide +kernel
theorem dX10_answering_31 : decode cX10_answering 31 = .ok (.i2l, 1) := by decide +kernel
theorem dX10_answering_32 : decode cX10_answering 32 = .ok (.aload_n 0, 1) := by decide +kernel
theorem dX10_answering_33 : decode cX10_answering 33 = .ok (.getfield 22, 3) := by decide +kernel
theorem dX10_answering_36 : decode cX10_answering 36 = .ok (.i2l, 1) := by decide +kernel
theorem dX10_answering_37 : decode cX10_answering 37 = .ok (.invokestatic 96, 3) := by decide +kernel
theorem dX10_answering_40 : decode cX10_answering 40 = .ok (.ifCond .eq 49, 3) := by decide +kernel
theorem dX10_answering_43 : decode cX10_answering 43 = .ok (.aload_n 0, 1) := by decide +kernel
theorem dX10_answering_44 : decode cX10_answering 44 = .ok (.getfield 207, 3) := by decide +kernel
theorem dX10_answering_47 : decode cX10_answering 47 = .ok (.aload_n 0, 1) := by decide +kernel
theorem dX10_answering_48 : decode cX10_answering 48 = .ok (.getfield 22, 3) := by decide +kernel
theorem dX10_answering_51 : decode cX10_answering 51 = .ok (.ineg, 1) := by decide +kernel
theorem dX10_answering_52 : decode cX10_answering 52 = .ok (.i2l, 1) := by decide +kernel
theorem dX10_answering_53 : decode cX10_answering 53 = .ok (.aload_n 0, 1) := by decide +kernel
theorem dX10_answering_54 : decode cX10_answering 54 = .ok (.getfield 22, 3) := by decide +kernel
theorem dX10_answering_57 : decode cX10_answering 57 = .ok (.i2l, 1) := by decide +kernel
theorem dX10_answering_58 : decode cX10_answering 58 = .ok (.invokestatic 96, 3) := by decide +kernel
theorem dX10_answering_61 : decode cX10_answering 61 = .ok (.ifCond .eq 28, 3) := by decide +kernel
theorem dX10_answering_64 : decode cX10_answering 64 = .ok (.aload_n 0, 1) := by decide +kernel
theorem dX10_answering_65 : decode cX10_answering 65 = .ok (.aload_n 0, 1) := by decide +kernel
theorem dX10_answering_66 : decode cX10_answering 66 = .ok (.getfield 203, 3) := by decide +kernel
theorem dX10_answering_69 : decode cX10_answering 69 = .ok (.aload_n 0, 1) := by decide +kernel
theorem dX10_answering_70 : decode cX10_answering 70 = .ok (.getfield 207, 3) := by decide +kernel
theorem dX10_answering_73 : decode cX10_answering 73 = .ok (.invokevirtual 146, 3) := by decide +kernel
theorem dX10_answering_76 : decode cX10_answering 76 = .ok (.aload_n 0, 1) := by decide +kernel
theorem dX10_answering_77 : decode cX10_answering 77 = .ok (.getfield 19, 3) := by decide +kernel
theorem dX10_answering_80 : decode cX10_answering 80 = .ok (.i2l, 1) := by decide +kernel
theorem dX10_answering_81 : decode cX10_answering 81 = .ok (.lcmp, 1) := by decide +kernel
theorem dX10_answering_82 : decode cX10_answering 82 = .ok (.ifCond .ne 7, 3) := by decide +kernel
theorem dX10_answering_85 : decode cX10_answering 85 = .ok (.iconst 1, 1) := by decide +kernel
theorem dX10_answering_86 : decode cX10_answering 86 = .ok (.goto 4, 3) := by decide +kernel
theorem dX10_answering_89 : decode cX10_answering 89 = .ok (.iconst 0, 1) := by decide +kernel
theorem dX10_answering_90 : decode cX10_answering 90 = .ok (.iadd, 1) := by decide +kernel
theorem dX10_answering_91 : decode cX10_answering 91 = .ok (.istore_n 1, 1) := by decide +kernel
theorem dX10_answering_92 : decode cX10_answering 92 = .ok (.iinc 2 1, 3) := by decide +kernel
theorem dX10_answering_95 : decode cX10_answering 95 = .ok (.goto (-87), 3) := by decide +kernel
theorem dX10_answering_98 : decode cX10_answering 98 = .ok (.iload_n 1, 1) := by decide +kernel
theorem dX10_answering_99 : decode cX10_answering 99 = .ok (.ireturn, 1) := by decide +kernel
theorem dX10_of_0 : decode cX10_of 0 = .ok (.aload_n 0, 1) := by decide +kernel
theorem dX10_of_1 : decode cX10_of 1 = .ok (.iload_n 1, 1) := by decide +kernel
theorem dX10_of_2 : decode cX10_of 2 = .ok (.invokevirtual 104, 3) := by decide +kernel
theorem dX10_of_5 : decode cX10_of 5 = .ok (.ifCond .eq 16, 3) := by decide +kernel
theorem dX10_of_8 : decode cX10_of 8 = .ok (.aload_n 0, 1) := by decide +kernel
theorem dX10_of_9 : decode cX10_of 9 = .ok (.getfield 15, 3) := by decide +kernel
theorem dX10_of_12 : decode cX10_of 12 = .ok (.iload_n 1, 1) := by decide +kernel
theorem dX10_of_13 : decode cX10_of 13 = .ok (.laload, 1) := by decide +kernel
theorem dX10_of_14 : decode cX10_of 14 = .ok (.l2i, 1) := by decide +kernel
theorem dX10_of_15 : decode cX10_of 15 = .ok (.bipush 100, 2) := by decide +kernel
theorem dX10_of_17 : decode cX10_of 17 = .ok (.iadd, 1) := by decide +kernel
theorem dX10_of_18 : decode cX10_of 18 = .ok (.goto 4, 3) := by decide +kernel
theorem dX10_of_21 : decode cX10_of 21 = .ok (.iconst (-1), 1) := by decide +kernel
theorem dX10_of_22 : decode cX10_of 22 = .ok (.ireturn, 1) := by decide +kernel
theorem dX10_told_0 : decode cX10_told 0 = .ok (.iload_n 1, 1) := by decide +kernel
theorem dX10_told_1 : decode cX10_told 1 = .ok (.tableswitch 107 0 7 #[47, 52, 61, 66, 75, 84, 93, 102], 47) := by decide +kernel
theorem dX10_told_48 : decode cX10_told 48 = .ok (.aload_n 0, 1) := by decide +kernel
theorem dX10_told_49 : decode cX10_told 49 = .ok (.getfield 9, 3) := by decide +kernel
theorem dX10_told_52 : decode cX10_told 52 = .ok (.ireturn, 1) := by decide +kernel
theorem dX10_told_53 : decode cX10_told 53 = .ok (.aload_n 0, 1) := by decide +kernel
theorem dX10_told_54 : decode cX10_told 54 = .ok (.getfield 19, 3) := by decide +kernel
theorem dX10_told_57 : decode cX10_told 57 = .ok (.sipush 10000, 3) := by decide +kernel
theorem dX10_told_60 : decode cX10_told 60 = .ok (.iadd, 1) := by decide +kernel
theorem dX10_told_61 : decode cX10_told 61 = .ok (.ireturn, 1) := by decide +kernel
theorem dX10_told_62 : decode cX10_told 62 = .ok (.aload_n 0, 1) := by decide +kernel
theorem dX10_told_63 : decode cX10_told 63 = .ok (.getfield 22, 3) := by decide +kernel
theorem dX10_told_66 : decode cX10_told 66 = .ok (.ireturn, 1) := by decide +kernel
theorem dX10_told_67 : decode cX10_told 67 = .ok (.aload_n 0, 1) := by decide +kernel
theorem dX10_told_68 : decode cX10_told 68 = .ok (.invokevirtual 157, 3) := by decide +kernel
theorem dX10_told_71 : decode cX10_told 71 = .ok (.aload_n 0, 1) := by decide +kernel
theorem dX10_told_72 : decode cX10_told 72 = .ok (.getfield 143, 3) := by decide +kernel
theorem dX10_told_75 : decode cX10_told 75 = .ok (.ireturn, 1) := by decide +kernel
theorem dX10_told_76 : decode cX10_told 76 = .ok (.aload_n 0, 1) := by decide +kernel
theorem dX10_told_77 : decode cX10_told 77 = .ok (.invokevirtual 160, 3) := by decide +kernel
theorem dX10_told_80 : decode cX10_told 80 = .ok (.aload_n 0, 1) := by decide +kernel
theorem dX10_told_81 : decode cX10_told 81 = .ok (.getfield 150, 3) := by decide +kernel
theorem dX10_told_84 : decode cX10_told 84 = .ok (.ireturn, 1) := by decide +kernel
theorem dX10_told_85 : decode cX10_told 85 = .ok (.aload_n 0, 1) := by decide +kernel
theorem dX10_told_86 : decode cX10_told 86 = .ok (.invokevirtual 219, 3) := by decide +kernel
theorem dX10_told_89 : decode cX10_told 89 = .ok (.aload_n 0, 1) := by decide +kernel
theorem dX10_told_90 : decode cX10_told 90 = .ok (.getfield 171, 3) := by decide +kernel
theorem dX10_told_93 : decode cX10_told 93 = .ok (.ireturn, 1) := by decide +kernel
theorem dX10_told_94 : decode cX10_told 94 = .ok (.aload_n 0, 1) := by decide +kernel
theorem dX10_told_95 : decode cX10_told 95 = .ok (.invokevirtual 210, 3) := by decide +kernel
theorem dX10_told_98 : decode cX10_told 98 = .ok (.aload_n 0, 1) := by decide +kernel
theorem dX10_told_99 : decode cX10_told 99 = .ok (.getfield 194, 3) := by decide +kernel
theorem dX10_told_102 : decode cX10_told 102 = .ok (.ireturn, 1) := by decide +kernel
theorem dX10_told_103 : decode cX10_told 103 = .ok (.aload_n 0, 1) := by decide +kernel
theorem dX10_told_104 : decode cX10_told 104 = .ok (.invokevirtual 222, 3) := by decide +kernel
theorem dX10_told_107 : decode cX10_told 107 = .ok (.ireturn, 1) := by decide +kernel
theorem dX10_told_108 : decode cX10_told 108 = .ok (.iconst (-1), 1) := by decide +kernel
theorem dX10_told_109 : decode cX10_told 109 = .ok (.ireturn, 1) := by decide +kernel
theorem dX10_value_0 : decode cX10_value 0 = .ok (.iload_n 1, 1) := by decide +kernel
theorem dX10_value_1 : decode cX10_value 1 = .ok (.i2l, 1) := by decide +kernel
theorem dX10_value_2 : decode cX10_value 2 = .ok (.ldc2_w 225, 3) := by decide +kernel
theorem dX10_value_5 : decode cX10_value 5 = .ok (.ldc2_w 227, 3) := by decide +kernel
theorem dX10_value_8 : decode cX10_value 8 = .ok (.invokestatic 96, 3) := by decide +kernel
theorem dX10_value_11 : decode cX10_value 11 = .ok (.ifCond .eq 28, 3) := by decide +kernel
theorem dX10_value_14 : decode cX10_value 14 = .ok (.iload_n 2, 1) := by decide +kernel
theorem dX10_value_15 : decode cX10_value 15 = .ok (.i2l, 1) := by decide +kernel
theorem dX10_value_16 : decode cX10_value 16 = .ok (.ldc2_w 225, 3) := by decide +kernel
theorem dX10_value_19 : decode cX10_value 19 = .ok (.ldc2_w 227, 3) := by decide +kernel
theorem dX10_value_22 : decode cX10_value 22 = .ok (.invokestatic 96, 3) := by decide +kernel
theorem dX10_value_25 : decode cX10_value 25 = .ok (.ifCond .eq 14, 3) := by decide +kernel
theorem dX10_value_28 : decode cX10_value 28 = .ok (.aload_n 0, 1) := by decide +kernel
theorem dX10_value_29 : decode cX10_value 29 = .ok (.iload_n 1, 1) := by decide +kernel
theorem dX10_value_30 : decode cX10_value 30 = .ok (.i2l, 1) := by decide +kernel
theorem dX10_value_31 : decode cX10_value 31 = .ok (.iload_n 2, 1) := by decide +kernel
theorem dX10_value_32 : decode cX10_value 32 = .ok (.i2l, 1) := by decide +kernel
theorem dX10_value_33 : decode cX10_value 33 = .ok (.invokevirtual 146, 3) := by decide +kernel
theorem dX10_value_36 : decode cX10_value 36 = .ok (.goto 6, 3) := by decide +kernel
theorem dX10_value_39 : decode cX10_value 39 = .ok (.ldc2_w 213, 3) := by decide +kernel
theorem dX10_value_42 : decode cX10_value 42 = .ok (.lreturn, 1) := by decide +kernel
theorem dX10_answer_0 : decode cX10_answer 0 = .ok (.iload_n 1, 1) := by decide +kernel
theorem dX10_answer_1 : decode cX10_answer 1 = .ok (.ifCond .lt 15, 3) := by decide +kernel
theorem dX10_answer_4 : decode cX10_answer 4 = .ok (.iload_n 2, 1) := by decide +kernel
theorem dX10_answer_5 : decode cX10_answer 5 = .ok (.i2l, 1) := by decide +kernel
theorem dX10_answer_6 : decode cX10_answer 6 = .ok (.lconst 0, 1) := by decide +kernel
theorem dX10_answer_7 : decode cX10_answer 7 = .ok (.ldc2_w 100, 3) := by decide +kernel
theorem dX10_answer_10 : decode cX10_answer 10 = .ok (.invokestatic 96, 3) := by decide +kernel
theorem dX10_answer_13 : decode cX10_answer 13 = .ok (.ifCond .ne 5, 3) := by decide +kernel
theorem dX10_answer_16 : decode cX10_answer 16 = .ok (.iconst (-1), 1) := by decide +kernel
theorem dX10_answer_17 : decode cX10_answer 17 = .ok (.ireturn, 1) := by decide +kernel
theorem dX10_answer_18 : decode cX10_answer 18 = .ok (.aload_n 0, 1) := by decide +kernel
theorem dX10_answer_19 : decode cX10_answer 19 = .ok (.invokevirtual 219, 3) := by decide +kernel
theorem dX10_answer_22 : decode cX10_answer 22 = .ok (.iload_n 1, 1) := by decide +kernel
theorem dX10_answer_23 : decode cX10_answer 23 = .ok (.aload_n 0, 1) := by decide +kernel
theorem dX10_answer_24 : decode cX10_answer 24 = .ok (.getfield 143, 3) := by decide +kernel
theorem dX10_answer_27 : decode cX10_answer 27 = .ok (.if_icmp .lt 8, 3) := by decide +kernel
theorem dX10_answer_30 : decode cX10_answer 30 = .ok (.bipush (-5), 2) := by decide +kernel
theorem dX10_answer_32 : decode cX10_answer 32 = .ok (.goto 30, 3) := by decide +kernel
theorem dX10_answer_35 : decode cX10_answer 35 = .ok (.iload_n 2, 1) := by decide +kernel
theorem dX10_answer_36 : decode cX10_answer 36 = .ok (.iconst 2, 1) := by decide +kernel
theorem dX10_answer_37 : decode cX10_answer 37 = .ok (.if_icmp .ne 12, 3) := by decide +kernel
theorem dX10_answer_40 : decode cX10_answer 40 = .ok (.aload_n 0, 1) := by decide +kernel
theorem dX10_answer_41 : decode cX10_answer 41 = .ok (.getfield 53, 3) := by decide +kernel
theorem dX10_answer_44 : decode cX10_answer 44 = .ok (.iload_n 1, 1) := by decide +kernel
theorem dX10_answer_45 : decode cX10_answer 45 = .ok (.iaload, 1) := by decide +kernel
theorem dX10_answer_46 : decode cX10_answer 46 = .ok (.goto 16, 3) := by decide +kernel
theorem dX10_answer_49 : decode cX10_answer 49 = .ok (.aload_n 0, 1) := by decide +kernel
theorem dX10_answer_50 : decode cX10_answer 50 = .ok (.getfield 41, 3) := by decide +kernel
theorem dX10_answer_53 : decode cX10_answer 53 = .ok (.iconst 2, 1) := by decide +kernel
theorem dX10_answer_54 : decode cX10_answer 54 = .ok (.iload_n 1, 1) := by decide +kernel
theorem dX10_answer_55 : decode cX10_answer 55 = .ok (.imul, 1) := by decide +kernel
theorem dX10_answer_56 : decode cX10_answer 56 = .ok (.iload_n 2, 1) := by decide +kernel
theorem dX10_answer_57 : decode cX10_answer 57 = .ok (.iadd, 1) := by decide +kernel
theorem dX10_answer_58 : decode cX10_answer 58 = .ok (.iaload, 1) := by decide +kernel
theorem dX10_answer_59 : decode cX10_answer 59 = .ok (.bipush 100, 2) := by decide +kernel
theorem dX10_answer_61 : decode cX10_answer 61 = .ok (.iadd, 1) := by decide +kernel
theorem dX10_answer_62 : decode cX10_answer 62 = .ok (.ireturn, 1) := by decide +kernel
theorem dX10_unit_0 : decode cX10_unit 0 = .ok (.iload_n 1, 1) := by decide +kernel
theorem dX10_unit_1 : decode cX10_unit 1 = .ok (.ifCond .lt 15, 3) := by decide +kernel
theorem dX10_unit_4 : decode cX10_unit 4 = .ok (.iload_n 2, 1) := by decide +kernel
theorem dX10_unit_5 : decode cX10_unit 5 = .ok (.i2l, 1) := by decide +kernel
theorem dX10_unit_6 : decode cX10_unit 6 = .ok (.lconst 0, 1) := by decide +kernel
theorem dX10_unit_7 : decode cX10_unit 7 = .ok (.ldc2_w 229, 3) := by decide +kernel
theorem dX10_unit_10 : decode cX10_unit 10 = .ok (.invokestatic 96, 3) := by decide +kernel
theorem dX10_unit_13 : decode cX10_unit 13 = .ok (.ifCond .ne 5, 3) := by decide +kernel
theorem dX10_unit_16 : decode cX10_unit 16 = .ok (.iconst (-1), 1) := by decide +kernel
theorem dX10_unit_17 : decode cX10_unit 17 = .ok (.ireturn, 1) := by decide +kernel
theorem dX10_unit_18 : decode cX10_unit 18 = .ok (.aload_n 0, 1) := by decide +kernel
theorem dX10_unit_19 : decode cX10_unit 19 = .ok (.invokevirtual 160, 3) := by decide +kernel
theorem dX10_unit_22 : decode cX10_unit 22 = .ok (.iload_n 1, 1) := by decide +kernel
theorem dX10_unit_23 : decode cX10_unit 23 = .ok (.aload_n 0, 1) := by decide +kernel
theorem dX10_unit_24 : decode cX10_unit 24 = .ok (.getfield 150, 3) := by decide +kernel
theorem dX10_unit_27 : decode cX10_unit 27 = .ok (.if_icmp .ge 19, 3) := by decide +kernel
theorem dX10_unit_30 : decode cX10_unit 30 = .ok (.aload_n 0, 1) := by decide +kernel
theorem dX10_unit_31 : decode cX10_unit 31 = .ok (.getfield 44, 3) := by decide +kernel
theorem dX10_unit_34 : decode cX10_unit 34 = .ok (.iconst 4, 1) := by decide +kernel
theorem dX10_unit_35 : decode cX10_unit 35 = .ok (.iload_n 1, 1) := by decide +kernel
theorem dX10_unit_36 : decode cX10_unit 36 = .ok (.imul, 1) := by decide +kernel
theorem dX10_unit_37 : decode cX10_unit 37 = .ok (.iload_n 2, 1) := by decide +kernel
theorem dX10_unit_38 : decode cX10_unit 38 = .ok (.iadd, 1) := by decide +kernel
theorem dX10_unit_39 : decode cX10_unit 39 = .ok (.iaload, 1) := by decide +kernel
theorem dX10_unit_40 : decode cX10_unit 40 = .ok (.bipush 10, 2) := by decide +kernel
theorem dX10_unit_42 : decode cX10_unit 42 = .ok (.iadd, 1) := by decide +kernel
theorem dX10_unit_43 : decode cX10_unit 43 = .ok (.goto 5, 3) := by decide +kernel
theorem dX10_unit_46 : decode cX10_unit 46 = .ok (.bipush (-5), 2) := by decide +kernel
theorem dX10_unit_48 : decode cX10_unit 48 = .ok (.ireturn, 1) := by decide +kernel
theorem dX10_family_0 : decode cX10_family 0 = .ok (.iload_n 1, 1) := by decide +kernel
theorem dX10_family_1 : decode cX10_family 1 = .ok (.ifCond .ge 5, 3) := by decide +kernel
theorem dX10_family_4 : decode cX10_family 4 = .ok (.iconst (-1), 1) := by decide +kernel
theorem dX10_family_5 : decode cX10_family 5 = .ok (.ireturn, 1) := by decide +kernel
theorem dX10_family_6 : decode cX10_family 6 = .ok (.aload_n 0, 1) := by decide +kernel
theorem dX10_family_7 : decode cX10_family 7 = .ok (.invokevirtual 219, 3) := by decide +kernel
theorem dX10_family_10 : decode cX10_family 10 = .ok (.iload_n 1, 1) := by decide +kernel
theorem dX10_family_11 : decode cX10_family 11 = .ok (.aload_n 0, 1) := by decide +kernel
theorem dX10_family_12 : decode cX10_family 12 = .ok (.getfield 171, 3) := by decide +kernel
theorem dX10_family_15 : decode cX10_family 15 = .ok (.if_icmp .lt 6, 3) := by decide +kernel
theorem dX10_family_18 : decode cX10_family 18 = .ok (.bipush (-5), 2) := by decide +kernel
theorem dX10_family_20 : decode cX10_family 20 = .ok (.ireturn, 1) := by decide +kernel
theorem dX10_family_21 : decode cX10_family 21 = .ok (.iconst 0, 1) := by decide +kernel
theorem dX10_family_22 : decode cX10_family 22 = .ok (.istore_n 2, 1) := by decide +kernel
theorem dX10_family_23 : decode cX10_family 23 = .ok (.iconst 0, 1) := by decide +kernel
theorem dX10_family_24 : decode cX10_family 24 = .ok (.istore_n 3, 1) := by decide +kernel
theorem dX10_family_25 : decode cX10_family 25 = .ok (.iload_n 3, 1) := by decide +kernel
theorem dX10_family_26 : decode cX10_family 26 = .ok (.aload_n 0, 1) := by decide +kernel
theorem dX10_family_27 : decode cX10_family 27 = .ok (.getfield 143, 3) := by decide +kernel
theorem dX10_family_30 : decode cX10_family 30 = .ok (.if_icmp .ge 27, 3) := by decide +kernel
theorem dX10_family_33 : decode cX10_family 33 = .ok (.iload_n 2, 1) := by decide +kernel
theorem dX10_family_34 : decode cX10_family 34 = .ok (.aload_n 0, 1) := by decide +kernel
theorem dX10_family_35 : decode cX10_family 35 = .ok (.getfield 53, 3) := by decide +kernel
theorem dX10_family_38 : decode cX10_family 38 = .ok (.iload_n 3, 1) := by decide +kernel
theorem dX10_family_39 : decode cX10_family 39 = .ok (.iaload, 1) := by decide +kernel
theorem dX10_family_40 : decode cX10_family 40 = .ok (.iload_n 1, 1) := by decide +kernel
theorem dX10_family_41 : decode cX10_family 41 = .ok (.if_icmp .ne 7, 3) := by decide +kernel
theorem dX10_family_44 : decode cX10_family 44 = .ok (.iconst 1, 1) := by decide +kernel
theorem dX10_family_45 : decode cX10_family 45 = .ok (.goto 4, 3) := by decide +kernel
theorem dX10_family_48 : decode cX10_family 48 = .ok (.iconst 0, 1) := by decide +kernel
theorem dX10_family_49 : decode cX10_family 49 = .ok (.iadd, 1) := by decide +kernel
theorem dX10_family_50 : decode cX10_family 50 = .ok (.istore_n 2, 1) := by decide +kernel
theorem dX10_family_51 : decode cX10_family 51 = .ok (.iinc 3 1, 3) := by decide +kernel
theorem dX10_family_54 : decode cX10_family 54 = .ok (.goto (-29), 3) := by decide +kernel
theorem dX10_family_57 : decode cX10_family 57 = .ok (.iload_n 2, 1) := by decide +kernel
theorem dX10_family_58 : decode cX10_family 58 = .ok (.ireturn, 1) := by decide +kernel
theorem dX10_feed_0 : decode cX10_feed 0 = .ok (.iload_n 1, 1) := by decide +kernel
theorem dX10_feed_1 : decode cX10_feed 1 = .ok (.i2l, 1) := by decide +kernel
theorem dX10_feed_2 : decode cX10_feed 2 = .ok (.lconst 0, 1) := by decide +kernel
theorem dX10_feed_3 : decode cX10_feed 3 = .ok (.ldc2_w 231, 3) := by decide +kernel
theorem dX10_feed_6 : decode cX10_feed 6 = .ok (.invokestatic 96, 3) := by decide +kernel
theorem dX10_feed_9 : decode cX10_feed 9 = .ok (.ifCond .ne 6, 3) := by decide +kernel
theorem dX10_feed_12 : decode cX10_feed 12 = .ok (.bipush (-2), 2) := by decide +kernel
theorem dX10_feed_14 : decode cX10_feed 14 = .ok (.ireturn, 1) := by decide +kernel
theorem dX10_feed_15 : decode cX10_feed 15 = .ok (.aload_n 0, 1) := by decide +kernel
theorem dX10_feed_16 : decode cX10_feed 16 = .ok (.getfield 233, 3) := by decide +kernel
theorem dX10_feed_19 : decode cX10_feed 19 = .ok (.bipush 100, 2) := by decide +kernel
theorem dX10_feed_21 : decode cX10_feed 21 = .ok (.if_icmp .ne 6, 3) := by decide +kernel
theorem dX10_feed_24 : decode cX10_feed 24 = .ok (.bipush (-4), 2) := by decide +kernel
theorem dX10_feed_26 : decode cX10_feed 26 = .ok (.ireturn, 1) := by decide +kernel
theorem dX10_feed_27 : decode cX10_feed 27 = .ok (.aload_n 0, 1) := by decide +kernel
theorem dX10_feed_28 : decode cX10_feed 28 = .ok (.getfield 72, 3) := by decide +kernel
theorem dX10_feed_31 : decode cX10_feed 31 = .ok (.aload_n 0, 1) := by decide +kernel
theorem dX10_feed_32 : decode cX10_feed 32 = .ok (.getfield 233, 3) := by decide +kernel
theorem dX10_feed_35 : decode cX10_feed 35 = .ok (.iload_n 1, 1) := by decide +kernel
theorem dX10_feed_36 : decode cX10_feed 36 = .ok (.iastore, 1) := by decide +kernel
theorem dX10_feed_37 : decode cX10_feed 37 = .ok (.aload_n 0, 1) := by decide +kernel
theorem dX10_feed_38 : decode cX10_feed 38 = .ok (.dup, 1) := by decide +kernel
theorem dX10_feed_39 : decode cX10_feed 39 = .ok (.getfield 233, 3) := by decide +kernel
theorem dX10_feed_42 : decode cX10_feed 42 = .ok (.iconst 1, 1) := by decide +kernel
theorem dX10_feed_43 : decode cX10_feed 43 = .ok (.iadd, 1) := by decide +kernel
theorem dX10_feed_44 : decode cX10_feed 44 = .ok (.putfield 233, 3) := by decide +kernel
theorem dX10_feed_47 : decode cX10_feed 47 = .ok (.aload_n 0, 1) := by decide +kernel
theorem dX10_feed_48 : decode cX10_feed 48 = .ok (.getfield 233, 3) := by decide +kernel
theorem dX10_feed_51 : decode cX10_feed 51 = .ok (.ireturn, 1) := by decide +kernel
theorem dX10_here_0 : decode cX10_here 0 = .ok (.aload_n 0, 1) := by decide +kernel
theorem dX10_here_1 : decode cX10_here 1 = .ok (.getfield 236, 3) := by decide +kernel
theorem dX10_here_4 : decode cX10_here 4 = .ok (.aload_n 0, 1) := by decide +kernel
theorem dX10_here_5 : decode cX10_here 5 = .ok (.getfield 233, 3) := by decide +kernel
theorem dX10_here_8 : decode cX10_here 8 = .ok (.if_icmp .ge 15, 3) := by decide +kernel
theorem dX10_here_11 : decode cX10_here 11 = .ok (.aload_n 0, 1) := by decide +kernel
theorem dX10_here_12 : decode cX10_here 12 = .ok (.getfield 72, 3) := by decide +kernel
theorem dX10_here_15 : decode cX10_here 15 = .ok (.aload_n 0, 1) := by decide +kernel
theorem dX10_here_16 : decode cX10_here 16 = .ok (.getfield 236, 3) := by decide +kernel
theorem dX10_here_19 : decode cX10_here 19 = .ok (.iaload, 1) := by decide +kernel
theorem dX10_here_20 : decode cX10_here 20 = .ok (.goto 4, 3) := by decide +kernel
theorem dX10_here_23 : decode cX10_here 23 = .ok (.iconst (-1), 1) := by decide +kernel
theorem dX10_here_24 : decode cX10_here 24 = .ok (.ireturn, 1) := by decide +kernel
theorem dX10_isDigit_0 : decode cX10_isDigit 0 = .ok (.aload_n 0, 1) := by decide +kernel
theorem dX10_isDigit_1 : decode cX10_isDigit 1 = .ok (.invokevirtual 239, 3) := by decide +kernel
theorem dX10_isDigit_4 : decode cX10_isDigit 4 = .ok (.i2l, 1) := by decide +kernel
theorem dX10_isDigit_5 : decode cX10_isDigit 5 = .ok (.ldc2_w 242, 3) := by decide +kernel
theorem dX10_isDigit_8 : decode cX10_isDigit 8 = .ok (.ldc2_w 244, 3) := by decide +kernel
theorem dX10_isDigit_11 : decode cX10_isDigit 11 = .ok (.invokestatic 96, 3) := by decide +kernel
theorem dX10_isDigit_14 : decode cX10_isDigit 14 = .ok (.ireturn, 1) := by decide +kernel
theorem dX10_readsDigit_0 : decode cX10_readsDigit 0 = .ok (.aload_n 0, 1) := by decide +kernel
theorem dX10_readsDigit_1 : decode cX10_readsDigit 1 = .ok (.invokevirtual 246, 3) := by decide +kernel
theorem dX10_readsDigit_4 : decode cX10_readsDigit 4 = .ok (.ifCond .ne 5, 3) := by decide +kernel
theorem dX10_readsDigit_7 : decode cX10_readsDigit 7 = .ok (.iconst 0, 1) := by decide +kernel
theorem dX10_readsDigit_8 : decode cX10_readsDigit 8 = .ok (.ireturn, 1) := by decide +kernel
theorem dX10_readsDigit_9 : decode cX10_readsDigit 9 = .ok (.aload_n 0, 1) := by decide +kernel
theorem dX10_readsDigit_10 : decode cX10_readsDigit 10 = .ok (.getfield 75, 3) := by decide +kernel
theorem dX10_readsDigit_13 : decode cX10_readsDigit 13 = .ok (.iload_n 1, 1) := by decide +kernel
theorem dX10_readsDigit_14 : decode cX10_readsDigit 14 = .ok (.aload_n 0, 1) := by decide +kernel
theorem dX10_readsDigit_15 : decode cX10_readsDigit 15 = .ok (.invokevirtual 239, 3) := by decide +kernel
theorem dX10_readsDigit_18 : decode cX10_readsDigit 18 = .ok (.bipush 48, 2) := by decide +kernel
theorem dX10_readsDigit_20 : decode cX10_readsDigit 20 = .ok (.isub, 1) := by decide +kernel
theorem dX10_readsDigit_21 : decode cX10_readsDigit 21 = .ok (.iastore, 1) := by decide +kernel
theorem dX10_readsDigit_22 : decode cX10_readsDigit 22 = .ok (.aload_n 0, 1) := by decide +kernel
theorem dX10_readsDigit_23 : decode cX10_readsDigit 23 = .ok (.dup, 1) := by decide +kernel
theorem dX10_readsDigit_24 : decode cX10_readsDigit 24 = .ok (.getfield 236, 3) := by decide +kernel
theorem dX10_readsDigit_27 : decode cX10_readsDigit 27 = .ok (.iconst 1, 1) := by decide +kernel
theorem dX10_readsDigit_28 : decode cX10_readsDigit 28 = .ok (.iadd, 1) := by decide +kernel
theorem dX10_readsDigit_29 : decode cX10_readsDigit 29 = .ok (.putfield 236, 3) := by decide +kernel
theorem dX10_readsDigit_32 : decode cX10_readsDigit 32 = .ok (.iconst 1, 1) := by decide +kernel
theorem dX10_readsDigit_33 : decode cX10_readsDigit 33 = .ok (.ireturn, 1) := by decide +kernel
theorem dX10_readsNumber_0 : decode cX10_readsNumber 0 = .ok (.aload_n 0, 1) := by decide +kernel
theorem dX10_readsNumber_1 : decode cX10_readsNumber 1 = .ok (.invokevirtual 239, 3) := by decide +kernel
theorem dX10_readsNumber_4 : decode cX10_readsNumber 4 = .ok (.bipush 45, 2) := by decide +kernel
theorem dX10_readsNumber_6 : decode cX10_readsNumber 6 = .ok (.if_icmp .ne 7, 3) := by decide +kernel
theorem dX10_readsNumber_9 : decode cX10_readsNumber 9 = .ok (.iconst 1, 1) := by decide +kernel
theorem dX10_readsNumber_10 : decode cX10_readsNumber 10 = .ok (.goto 4, 3) := by decide +kernel
theorem dX10_readsNumber_13 : decode cX10_readsNumber 13 = .ok (.iconst 0, 1) := by decide +kernel
theorem dX10_readsNumber_14 : decode cX10_readsNumber 14 = .ok (.istore_n 2, 1) := by decide +kernel
theorem dX10_readsNumber_15 : decode cX10_readsNumber 15 = .ok (.aload_n 0, 1) := by decide +kernel
theorem dX10_readsNumber_16 : decode cX10_readsNumber 16 = .ok (.dup, 1) := by decide +kernel
theorem dX10_readsNumber_17 : decode cX10_readsNumber 17 = .ok (.getfield 236, 3) := by decide +kernel
theorem dX10_readsNumber_20 : decode cX10_readsNumber 20 = .ok (.iload_n 2, 1) := by decide +kernel
theorem dX10_readsNumber_21 : decode cX10_readsNumber 21 = .ok (.ifCond .eq 7, 3) := by decide +kernel
theorem dX10_readsNumber_24 : decode cX10_readsNumber 24 = .ok (.iconst 1, 1) := by decide +kernel
theorem dX10_readsNumber_25 : decode cX10_readsNumber 25 = .ok (.goto 4, 3) := by decide +kernel
theorem dX10_readsNumber_28 : decode cX10_readsNumber 28 = .ok (.iconst 0, 1) := by decide +kernel
theorem dX10_readsNumber_29 : decode cX10_readsNumber 29 = .ok (.iadd, 1) := by decide +kernel
theorem dX10_readsNumber_30 : decode cX10_readsNumber 30 = .ok (.putfield 236, 3) := by decide +kernel
theorem dX10_readsNumber_33 : decode cX10_readsNumber 33 = .ok (.aload_n 0, 1) := by decide +kernel
theorem dX10_readsNumber_34 : decode cX10_readsNumber 34 = .ok (.invokevirtual 246, 3) := by decide +kernel
theorem dX10_readsNumber_37 : decode cX10_readsNumber 37 = .ok (.ifCond .ne 5, 3) := by decide +kernel
theorem dX10_readsNumber_40 : decode cX10_readsNumber 40 = .ok (.iconst 0, 1) := by decide +kernel
theorem dX10_readsNumber_41 : decode cX10_readsNumber 41 = .ok (.ireturn, 1) := by decide +kernel
theorem dX10_readsNumber_42 : decode cX10_readsNumber 42 = .ok (.iconst 0, 1) := by decide +kernel
theorem dX10_readsNumber_43 : decode cX10_readsNumber 43 = .ok (.istore_n 3, 1) := by decide +kernel
theorem dX10_readsNumber_44 : decode cX10_readsNumber 44 = .ok (.iconst 0, 1) := by decide +kernel
theorem dX10_readsNumber_45 : decode cX10_readsNumber 45 = .ok (.istore 4, 2) := by decide +kernel
theorem dX10_readsNumber_47 : decode cX10_readsNumber 47 = .ok (.iload 4, 2) := by decide +kernel
theorem dX10_readsNumber_49 : decode cX10_readsNumber 49 = .ok (.iconst 4, 1) := by decide +kernel
theorem dX10_readsNumber_50 : decode cX10_readsNumber 50 = .ok (.if_icmp .ge 39, 3) := by decide +kernel
theorem dX10_readsNumber_53 : decode cX10_readsNumber 53 = .ok (.aload_n 0, 1) := by decide +kernel
theorem dX10_readsNumber_54 : decode cX10_readsNumber 54 = .ok (.invokevirtual 246, 3) := by decide +kernel
theorem dX10_readsNumber_57 : decode cX10_readsNumber 57 = .ok (.ifCond .eq 32, 3) := by decide +kernel
theorem dX10_readsNumber_60 : decode cX10_readsNumber 60 = .ok (.bipush 10, 2) := by decide +kernel
theorem dX10_readsNumber_62 : decode cX10_readsNumber 62 = .ok (.iload_n 3, 1) := by decide +kernel
theorem dX10_readsNumber_63 : decode cX10_readsNumber 63 = .ok (.imul, 1) := by decide +kernel
theorem dX10_readsNumber_64 : decode cX10_readsNumber 64 = .ok (.aload_n 0, 1) := by decide +kernel
theorem dX10_readsNumber_65 : decode cX10_readsNumber 65 = .ok (.invokevirtual 239, 3) := by decide +kernel
theorem dX10_readsNumber_68 : decode cX10_readsNumber 68 = .ok (.iadd, 1) := by decide +kernel
theorem dX10_readsNumber_69 : decode cX10_readsNumber 69 = .ok (.bipush 48, 2) := by decide +kernel
theorem dX10_readsNumber_71 : decode cX10_readsNumber 71 = .ok (.isub, 1) := by decide +kernel
theorem dX10_readsNumber_72 : decode cX10_readsNumber 72 = .ok (.istore_n 3, 1) := by decide +kernel
theorem dX10_readsNumber_73 : decode cX10_readsNumber 73 = .ok (.aload_n 0, 1) := by decide +kernel
theorem dX10_readsNumber_74 : decode cX10_readsNumber 74 = .ok (.dup, 1) := by decide +kernel
theorem dX10_readsNumber_75 : decode cX10_readsNumber 75 = .ok (.getfield 236, 3) := by decide +kernel
theorem dX10_readsNumber_78 : decode cX10_readsNumber 78 = .ok (.iconst 1, 1) := by decide +kernel
theorem dX10_readsNumber_79 : decode cX10_readsNumber 79 = .ok (.iadd, 1) := by decide +kernel
theorem dX10_readsNumber_80 : decode cX10_readsNumber 80 = .ok (.putfield 236, 3) := by decide +kernel
theorem dX10_readsNumber_83 : decode cX10_readsNumber 83 = .ok (.iinc 4 1, 3) := by decide +kernel
theorem dX10_readsNumber_86 : decode cX10_readsNumber 86 = .ok (.goto (-39), 3) := by decide +kernel
theorem dX10_readsNumber_89 : decode cX10_readsNumber 89 = .ok (.aload_n 0, 1) := by decide +kernel
theorem dX10_readsNumber_90 : decode cX10_readsNumber 90 = .ok (.getfield 75, 3) := by decide +kernel
theorem dX10_readsNumber_93 : decode cX10_readsNumber 93 = .ok (.iload_n 1, 1) := by decide +kernel
theorem dX10_readsNumber_94 : decode cX10_readsNumber 94 = .ok (.iload_n 2, 1) := by decide +kernel
theorem dX10_readsNumber_95 : decode cX10_readsNumber 95 = .ok (.ifCond .eq 8, 3) := by decide +kernel
theorem dX10_readsNumber_98 : decode cX10_readsNumber 98 = .ok (.iload_n 3, 1) := by decide +kernel
theorem dX10_readsNumber_99 : decode cX10_readsNumber 99 = .ok (.ineg, 1) := by decide +kernel
theorem dX10_readsNumber_100 : decode cX10_readsNumber 100 = .ok (.goto 4, 3) := by decide +kernel
theorem dX10_readsNumber_103 : decode cX10_readsNumber 103 = .ok (.iload_n 3, 1) := by decide +kernel
theorem dX10_readsNumber_104 : decode cX10_readsNumber 104 = .ok (.iastore, 1) := by decide +kernel
theorem dX10_readsNumber_105 : decode cX10_readsNumber 105 = .ok (.iconst 1, 1) := by decide +kernel
theorem dX10_readsNumber_106 : decode cX10_readsNumber 106 = .ok (.ireturn, 1) := by decide +kernel
theorem dX10_readsClause_0 : decode cX10_readsClause 0 = .ok (.aload_n 0, 1) := by decide +kernel
theorem dX10_readsClause_1 : decode cX10_readsClause 1 = .ok (.invokevirtual 239, 3) := by decide +kernel
theorem dX10_readsClause_4 : decode cX10_readsClause 4 = .ok (.istore_n 2, 1) := by decide +kernel
theorem dX10_readsClause_5 : decode cX10_readsClause 5 = .ok (.iload_n 2, 1) := by decide +kernel
theorem dX10_readsClause_6 : decode cX10_readsClause 6 = .ok (.bipush 100, 2) := by decide +kernel
theorem dX10_readsClause_8 : decode cX10_readsClause 8 = .ok (.if_icmp .eq 29, 3) := by decide +kernel
theorem dX10_readsClause_11 : decode cX10_readsClause 11 = .ok (.iload_n 2, 1) := by decide +kernel
theorem dX10_readsClause_12 : decode cX10_readsClause 12 = .ok (.bipush 97, 2) := by decide +kernel
theorem dX10_readsClause_14 : decode cX10_readsClause 14 = .ok (.if_icmp .eq 23, 3) := by decide +kernel
theorem dX10_readsClause_17 : decode cX10_readsClause 17 = .ok (.iload_n 2, 1) := by decide +kernel
theorem dX10_readsClause_18 : decode cX10_readsClause 18 = .ok (.bipush 61, 2) := by decide +kernel
theorem dX10_readsClause_20 : decode cX10_readsClause 20 = .ok (.if_icmp .eq 17, 3) := by decide +kernel
theorem dX10_readsClause_23 : decode cX10_readsClause 23 = .ok (.iload_n 2, 1) := by decide +kernel
theorem dX10_readsClause_24 : decode cX10_readsClause 24 = .ok (.bipush 119, 2) := by decide +kernel
theorem dX10_readsClause_26 : decode cX10_readsClause 26 = .ok (.if_icmp .eq 11, 3) := by decide +kernel
theorem dX10_readsClause_29 : decode cX10_readsClause 29 = .ok (.iload_n 2, 1) := by decide +kernel
theorem dX10_readsClause_30 : decode cX10_readsClause 30 = .ok (.bipush 116, 2) := by decide +kernel
theorem dX10_readsClause_32 : decode cX10_readsClause 32 = .ok (.if_icmp .eq 5, 3) := by decide +kernel
theorem dX10_readsClause_35 : decode cX10_readsClause 35 = .ok (.iconst 0, 1) := by decide +kernel
theorem dX10_readsClause_36 : decode cX10_readsClause 36 = .ok (.ireturn, 1) := by decide +kernel
theorem dX10_readsClause_37 : decode cX10_readsClause 37 = .ok (.aload_n 0, 1) := by decide +kernel
theorem dX10_readsClause_38 : decode cX10_readsClause 38 = .ok (.getfield 75, 3) := by decide +kernel
theorem dX10_readsClause_41 : decode cX10_readsClause 41 = .ok (.iconst 3, 1) := by decide +kernel
theorem dX10_readsClause_42 : decode cX10_readsClause 42 = .ok (.iload_n 1, 1) := by decide +kernel
theorem dX10_readsClause_43 : decode cX10_readsClause 43 = .ok (.imul, 1) := by decide +kernel
theorem dX10_readsClause_44 : decode cX10_readsClause 44 = .ok (.iload_n 2, 1) := by decide +kernel
theorem dX10_readsClause_45 : decode cX10_readsClause 45 = .ok (.iastore, 1) := by decide +kernel
theorem dX10_readsClause_46 : decode cX10_readsClause 46 = .ok (.aload_n 0, 1) := by decide +kernel
theorem dX10_readsClause_47 : decode cX10_readsClause 47 = .ok (.dup, 1) := by decide +kernel
theorem dX10_readsClause_48 : decode cX10_readsClause 48 = .ok (.getfield 236, 3) := by decide +kernel
theorem dX10_readsClause_51 : decode cX10_readsClause 51 = .ok (.iconst 1, 1) := by decide +kernel
theorem dX10_readsClause_52 : decode cX10_readsClause 52 = .ok (.iadd, 1) := by decide +kernel
theorem dX10_readsClause_53 : decode cX10_readsClause 53 = .ok (.putfield 236, 3) := by decide +kernel
theorem dX10_readsClause_56 : decode cX10_readsClause 56 = .ok (.iload_n 2, 1) := by decide +kernel
theorem dX10_readsClause_57 : decode cX10_readsClause 57 = .ok (.bipush 61, 2) := by decide +kernel
theorem dX10_readsClause_59 : decode cX10_readsClause 59 = .ok (.if_icmp .eq 23, 3) := by decide +kernel
theorem dX10_readsClause_62 : decode cX10_readsClause 62 = .ok (.iload_n 2, 1) := by decide +kernel
theorem dX10_readsClause_63 : decode cX10_readsClause 63 = .ok (.bipush 119, 2) := by decide +kernel
theorem dX10_readsClause_65 : decode cX10_readsClause 65 = .ok (.if_icmp .eq 17, 3) := by decide +kernel
theorem dX10_readsClause_68 : decode cX10_readsClause 68 = .ok (.aload_n 0, 1) := by decide +kernel
theorem dX10_readsClause_69 : decode cX10_readsClause 69 = .ok (.iconst 3, 1) := by decide +kernel
theorem dX10_readsClause_70 : decode cX10_readsClause 70 = .ok (.iload_n 1, 1) := by decide +kernel
theorem dX10_readsClause_71 : decode cX10_readsClause 71 = .ok (.imul, 1) := by decide +kernel
theorem dX10_readsClause_72 : decode cX10_readsClause 72 = .ok (.iconst 1, 1) := by decide +kernel
theorem dX10_readsClause_73 : decode cX10_readsClause 73 = .ok (.iadd, 1) := by decide +kernel
theorem dX10_readsClause_74 : decode cX10_readsClause 74 = .ok (.invokevirtual 249, 3) := by decide +kernel
theorem dX10_readsClause_77 : decode cX10_readsClause 77 = .ok (.ifCond .ne 5, 3) := by decide +kernel
theorem dX10_readsClause_80 : decode cX10_readsClause 80 = .ok (.iconst 0, 1) := by decide +kernel
theorem dX10_readsClause_81 : decode cX10_readsClause 81 = .ok (.ireturn, 1) := by decide +kernel
theorem dX10_readsClause_82 : decode cX10_readsClause 82 = .ok (.iload_n 2, 1) := by decide +kernel
theorem dX10_readsClause_83 : decode cX10_readsClause 83 = .ok (.bipush 100, 2) := by decide +kernel
theorem dX10_readsClause_85 : decode cX10_readsClause 85 = .ok (.if_icmp .eq 21, 3) := by decide +kernel
theorem dX10_readsClause_88 : decode cX10_readsClause 88 = .ok (.iload_n 2, 1) := by decide +kernel
theorem dX10_readsClause_89 : decode cX10_readsClause 89 = .ok (.bipush 116, 2) := by decide +kernel
theorem dX10_readsClause_91 : decode cX10_readsClause 91 = .ok (.if_icmp .eq 15, 3) := by decide +kernel
theorem dX10_readsClause_94 : decode cX10_readsClause 94 = .ok (.aload_n 0, 1) := by decide +kernel
theorem dX10_readsClause_95 : decode cX10_readsClause 95 = .ok (.iconst 3, 1) := by decide +kernel
theorem dX10_readsClause_96 : decode cX10_readsClause 96 = .ok (.iload_n 1, 1) := by decide +kernel
theorem dX10_readsClause_97 : decode cX10_readsClause 97 = .ok (.imul, 1) := by decide +kernel
theorem dX10_readsClause_98 : decode cX10_readsClause 98 = .ok (.iconst 2, 1) := by decide +kernel
theorem dX10_readsClause_99 : decode cX10_readsClause 99 = .ok (.iadd, 1) := by decide +kernel
theorem dX10_readsClause_100 : decode cX10_readsClause 100 = .ok (.invokevirtual 252, 3) := by decide +kernel
theorem dX10_readsClause_103 : decode cX10_readsClause 103 = .ok (.ifCond .eq 7, 3) := by decide +kernel
theorem dX10_readsClause_106 : decode cX10_readsClause 106 = .ok (.iconst 1, 1) := by decide +kernel
theorem dX10_readsClause_107 : decode cX10_readsClause 107 = .ok (.goto 4, 3) := by decide +kernel
theorem dX10_readsClause_110 : decode cX10_readsClause 110 = .ok (.iconst 0, 1) := by decide +kernel
theorem dX10_readsClause_111 : decode cX10_readsClause 111 = .ok (.ireturn, 1) := by decide +kernel
theorem dX10_does_0 : decode cX10_does 0 = .ok (.aload_n 0, 1) := by decide +kernel
theorem dX10_does_1 : decode cX10_does 1 = .ok (.getfield 75, 3) := by decide +kernel
theorem dX10_does_4 : decode cX10_does 4 = .ok (.iconst 3, 1) := by decide +kernel
theorem dX10_does_5 : decode cX10_does 5 = .ok (.iload_n 1, 1) := by decide +kernel
theorem dX10_does_6 : decode cX10_does 6 = .ok (.imul, 1) := by decide +kernel
theorem dX10_does_7 : decode cX10_does 7 = .ok (.iconst 1, 1) := by decide +kernel
theorem dX10_does_8 : decode cX10_does 8 = .ok (.iadd, 1) := by decide +kernel
theorem dX10_does_9 : decode cX10_does 9 = .ok (.iaload, 1) := by decide +kernel
theorem dX10_does_10 : decode cX10_does 10 = .ok (.istore_n 2, 1) := by decide +kernel
theorem dX10_does_11 : decode cX10_does 11 = .ok (.aload_n 0, 1) := by decide +kernel
theorem dX10_does_12 : decode cX10_does 12 = .ok (.getfield 75, 3) := by decide +kernel
theorem dX10_does_15 : decode cX10_does 15 = .ok (.iconst 3, 1) := by decide +kernel
theorem dX10_does_16 : decode cX10_does 16 = .ok (.iload_n 1, 1) := by decide +kernel
theorem dX10_does_17 : decode cX10_does 17 = .ok (.imul, 1) := by decide +kernel
theorem dX10_does_18 : decode cX10_does 18 = .ok (.iconst 2, 1) := by decide +kernel
theorem dX10_does_19 : decode cX10_does 19 = .ok (.iadd, 1) := by decide +kernel
theorem dX10_does_20 : decode cX10_does 20 = .ok (.iaload, 1) := by decide +kernel
theorem dX10_does_21 : decode cX10_does 21 = .ok (.istore_n 3, 1) := by decide +kernel
theorem dX10_does_22 : decode cX10_does 22 = .ok (.aload_n 0, 1) := by decide +kernel
theorem dX10_does_23 : decode cX10_does 23 = .ok (.getfield 75, 3) := by decide +kernel
theorem dX10_does_26 : decode cX10_does 26 = .ok (.iconst 3, 1) := by decide +kernel
theorem dX10_does_27 : decode cX10_does 27 = .ok (.iload_n 1, 1) := by decide +kernel
theorem dX10_does_28 : decode cX10_does 28 = .ok (.imul, 1) := by decide +kernel
theorem dX10_does_29 : decode cX10_does 29 = .ok (.iaload, 1) := by decide +kernel
theorem dX10_does_30 : decode cX10_does 30 = .ok (.lookupswitch 67 #[(61, 55), (97, 48), (100, 42), (119, 61)], 42) := by decide +kernel
theorem dX10_does_72 : decode cX10_does 72 = .ok (.aload_n 0, 1) := by decide +kernel
theorem dX10_does_73 : decode cX10_does 73 = .ok (.iload_n 2, 1) := by decide +kernel
theorem dX10_does_74 : decode cX10_does 74 = .ok (.invokevirtual 255, 3) := by decide +kernel
theorem dX10_does_77 : decode cX10_does 77 = .ok (.ireturn, 1) := by decide +kernel
theorem dX10_does_78 : decode cX10_does 78 = .ok (.aload_n 0, 1) := by decide +kernel
theorem dX10_does_79 : decode cX10_does 79 = .ok (.iload_n 2, 1) := by decide +kernel
theorem dX10_does_80 : decode cX10_does 80 = .ok (.iload_n 3, 1) := by decide +kernel
theorem dX10_does_81 : decode cX10_does 81 = .ok (.invokevirtual 258, 3) := by decide +kernel
theorem dX10_does_84 : decode cX10_does 84 = .ok (.ireturn, 1) := by decide +kernel
theorem dX10_does_85 : decode cX10_does 85 = .ok (.aload_n 0, 1) := by decide +kernel
theorem dX10_does_86 : decode cX10_does 86 = .ok (.iload_n 3, 1) := by decide +kernel
theorem dX10_does_87 : decode cX10_does 87 = .ok (.invokevirtual 261, 3) := by decide +kernel
theorem dX10_does_90 : decode cX10_does 90 = .ok (.ireturn, 1) := by decide +kernel
theorem dX10_does_91 : decode cX10_does 91 = .ok (.aload_n 0, 1) := by decide +kernel
theorem dX10_does_92 : decode cX10_does 92 = .ok (.iload_n 3, 1) := by decide +kernel
theorem dX10_does_93 : decode cX10_does 93 = .ok (.invokevirtual 264, 3) := by decide +kernel
theorem dX10_does_96 : decode cX10_does 96 = .ok (.ireturn, 1) := by decide +kernel
theorem dX10_does_97 : decode cX10_does 97 = .ok (.aload_n 0, 1) := by decide +kernel
theorem dX10_does_98 : decode cX10_does 98 = .ok (.iload_n 2, 1) := by decide +kernel
theorem dX10_does_99 : decode cX10_does 99 = .ok (.invokevirtual 267, 3) := by decide +kernel
theorem dX10_does_102 : decode cX10_does 102 = .ok (.ireturn, 1) := by decide +kernel
theorem dX10_read_0 : decode cX10_read 0 = .ok (.aload_n 0, 1) := by decide +kernel
theorem dX10_read_1 : decode cX10_read 1 = .ok (.iconst 0, 1) := by decide +kernel
theorem dX10_read_2 : decode cX10_read 2 = .ok (.putfield 236, 3) := by decide +kernel
theorem dX10_read_5 : decode cX10_read 5 = .ok (.iconst 0, 1) := by decide +kernel
theorem dX10_read_6 : decode cX10_read 6 = .ok (.istore_n 1, 1) := by decide +kernel
theorem dX10_read_7 : decode cX10_read 7 = .ok (.aload_n 0, 1) := by decide +kernel
theorem dX10_read_8 : decode cX10_read 8 = .ok (.iconst 0, 1) := by decide +kernel
theorem dX10_read_9 : decode cX10_read 9 = .ok (.invokevirtual 270, 3) := by decide +kernel
theorem dX10_read_12 : decode cX10_read 12 = .ok (.istore_n 2, 1) := by decide +kernel
theorem dX10_read_13 : decode cX10_read 13 = .ok (.iload_n 2, 1) := by decide +kernel
theorem dX10_read_14 : decode cX10_read 14 = .ok (.ifCond .eq 42, 3) := by decide +kernel
theorem dX10_read_17 : decode cX10_read 17 = .ok (.aload_n 0, 1) := by decide +kernel
theorem dX10_read_18 : decode cX10_read 18 = .ok (.invokevirtual 239, 3) := by decide +kernel
theorem dX10_read_21 : decode cX10_read 21 = .ok (.bipush 59, 2) := by decide +kernel
theorem dX10_read_23 : decode cX10_read 23 = .ok (.if_icmp .ne 33, 3) := by decide +kernel
theorem dX10_read_26 : decode cX10_read 26 = .ok (.iload_n 1, 1) := by decide +kernel
theorem dX10_read_27 : decode cX10_read 27 = .ok (.iconst 1, 1) := by decide +kernel
theorem dX10_read_28 : decode cX10_read 28 = .ok (.iadd, 1) := by decide +kernel
theorem dX10_read_29 : decode cX10_read 29 = .ok (.bipush 12, 2) := by decide +kernel
theorem dX10_read_31 : decode cX10_read 31 = .ok (.if_icmp .ge 25, 3) := by decide +kernel
theorem dX10_read_34 : decode cX10_read 34 = .ok (.aload_n 0, 1) := by decide +kernel
theorem dX10_read_35 : decode cX10_read 35 = .ok (.dup, 1) := by decide +kernel
theorem dX10_read_36 : decode cX10_read 36 = .ok (.getfield 236, 3) := by decide +kernel
theorem dX10_read_39 : decode cX10_read 39 = .ok (.iconst 1, 1) := by decide +kernel
theorem dX10_read_40 : decode cX10_read 40 = .ok (.iadd, 1) := by decide +kernel
theorem dX10_read_41 : decode cX10_read 41 = .ok (.putfield 236, 3) := by decide +kernel
theorem dX10_read_44 : decode cX10_read 44 = .ok (.iinc 1 1, 3) := by decide +kernel
theorem dX10_read_47 : decode cX10_read 47 = .ok (.aload_n 0, 1) := by decide +kernel
theorem dX10_read_48 : decode cX10_read 48 = .ok (.iload_n 1, 1) := by decide +kernel
theorem dX10_read_49 : decode cX10_read 49 = .ok (.invokevirtual 270, 3) := by decide +kernel
theorem dX10_read_52 : decode cX10_read 52 = .ok (.istore_n 2, 1) := by decide +kernel
theorem dX10_read_53 : decode cX10_read 53 = .ok (.goto (-40), 3) := by decide +kernel
theorem dX10_read_56 : decode cX10_read 56 = .ok (.iload_n 2, 1) := by decide +kernel
theorem dX10_read_57 : decode cX10_read 57 = .ok (.aload_n 0, 1) := by decide +kernel
theorem dX10_read_58 : decode cX10_read 58 = .ok (.getfield 236, 3) := by decide +kernel
theorem dX10_read_61 : decode cX10_read 61 = .ok (.aload_n 0, 1) := by decide +kernel
theorem dX10_read_62 : decode cX10_read 62 = .ok (.getfield 233, 3) := by decide +kernel
theorem dX10_read_65 : decode cX10_read 65 = .ok (.if_icmp .ne 7, 3) := by decide +kernel
theorem dX10_read_68 : decode cX10_read 68 = .ok (.iconst 1, 1) := by decide +kernel
theorem dX10_read_69 : decode cX10_read 69 = .ok (.goto 4, 3) := by decide +kernel
theorem dX10_read_72 : decode cX10_read 72 = .ok (.iconst 0, 1) := by decide +kernel
theorem dX10_read_73 : decode cX10_read 73 = .ok (.iand, 1) := by decide +kernel
theorem dX10_read_74 : decode cX10_read 74 = .ok (.istore_n 2, 1) := by decide +kernel
theorem dX10_read_75 : decode cX10_read 75 = .ok (.aload_n 0, 1) := by decide +kernel
theorem dX10_read_76 : decode cX10_read 76 = .ok (.iconst 0, 1) := by decide +kernel
theorem dX10_read_77 : decode cX10_read 77 = .ok (.putfield 233, 3) := by decide +kernel
theorem dX10_read_80 : decode cX10_read 80 = .ok (.iload_n 2, 1) := by decide +kernel
theorem dX10_read_81 : decode cX10_read 81 = .ok (.ifCond .ne 11, 3) := by decide +kernel
theorem dX10_read_84 : decode cX10_read 84 = .ok (.bipush (-10), 2) := by decide +kernel
theorem dX10_read_86 : decode cX10_read 86 = .ok (.aload_n 0, 1) := by decide +kernel
theorem dX10_read_87 : decode cX10_read 87 = .ok (.getfield 236, 3) := by decide +kernel
theorem dX10_read_90 : decode cX10_read 90 = .ok (.isub, 1) := by decide +kernel
theorem dX10_read_91 : decode cX10_read 91 = .ok (.ireturn, 1) := by decide +kernel
theorem dX10_read_92 : decode cX10_read 92 = .ok (.iconst 0, 1) := by decide +kernel
theorem dX10_read_93 : decode cX10_read 93 = .ok (.istore_n 3, 1) := by decide +kernel
theorem dX10_read_94 : decode cX10_read 94 = .ok (.iconst 0, 1) := by decide +kernel
theorem dX10_read_95 : decode cX10_read 95 = .ok (.istore 4, 2) := by decide +kernel
theorem dX10_read_97 : decode cX10_read 97 = .ok (.iload 4, 2) := by decide +kernel
theorem dX10_read_99 : decode cX10_read 99 = .ok (.iload_n 1, 1) := by decide +kernel
theorem dX10_read_100 : decode cX10_read 100 = .ok (.if_icmp .gt 26, 3) := by decide +kernel
theorem dX10_read_103 : decode cX10_read 103 = .ok (.iload_n 3, 1) := by decide +kernel
theorem dX10_read_104 : decode cX10_read 104 = .ok (.aload_n 0, 1) := by decide +kernel
theorem dX10_read_105 : decode cX10_read 105 = .ok (.iload 4, 2) := by decide +kernel
theorem dX10_read_107 : decode cX10_read 107 = .ok (.invokevirtual 273, 3) := by decide +kernel
theorem dX10_read_110 : decode cX10_read 110 = .ok (.ifCond .lt 7, 3) := by decide +kernel
theorem dX10_read_113 : decode cX10_read 113 = .ok (.iconst 1, 1) := by decide +kernel
theorem dX10_read_114 : decode cX10_read 114 = .ok (.goto 4, 3) := by decide +kernel
theorem dX10_read_117 : decode cX10_read 117 = .ok (.iconst 0, 1) := by decide +kernel
theorem dX10_read_118 : decode cX10_read 118 = .ok (.iadd, 1) := by decide +kernel
theorem dX10_read_119 : decode cX10_read 119 = .ok (.istore_n 3, 1) := by decide +kernel
theorem dX10_read_120 : decode cX10_read 120 = .ok (.iinc 4 1, 3) := by decide +kernel
theorem dX10_read_123 : decode cX10_read 123 = .ok (.goto (-26), 3) := by decide +kernel
theorem dX10_read_126 : decode cX10_read 126 = .ok (.iload_n 3, 1) := by decide +kernel
theorem dX10_read_127 : decode cX10_read 127 = .ok (.ireturn, 1) := by decide +kernel
theorem dX10_see_0 : decode cX10_see 0 = .ok (.iload_n 1, 1) := by decide +kernel
theorem dX10_see_1 : decode cX10_see 1 = .ok (.bipush (-100), 2) := by decide +kernel
theorem dX10_see_3 : decode cX10_see 3 = .ok (.if_icmp .ne 10, 3) := by decide +kernel
theorem dX10_see_6 : decode cX10_see 6 = .ok (.aload_n 0, 1) := by decide +kernel
theorem dX10_see_7 : decode cX10_see 7 = .ok (.iconst 0, 1) := by decide +kernel
theorem dX10_see_8 : decode cX10_see 8 = .ok (.putfield 276, 3) := by decide +kernel
theorem dX10_see_11 : decode cX10_see 11 = .ok (.iconst 0, 1) := by decide +kernel
theorem dX10_see_12 : decode cX10_see 12 = .ok (.ireturn, 1) := by decide +kernel
theorem dX10_see_13 : decode cX10_see 13 = .ok (.iload_n 1, 1) := by decide +kernel
theorem dX10_see_14 : decode cX10_see 14 = .ok (.i2l, 1) := by decide +kernel
theorem dX10_see_15 : decode cX10_see 15 = .ok (.ldc2_w 139, 3) := by decide +kernel
theorem dX10_see_18 : decode cX10_see 18 = .ok (.ldc2_w 141, 3) := by decide +kernel
theorem dX10_see_21 : decode cX10_see 21 = .ok (.invokestatic 96, 3) := by decide +kernel
theorem dX10_see_24 : decode cX10_see 24 = .ok (.ifCond .eq 31, 3) := by decide +kernel
theorem dX10_see_27 : decode cX10_see 27 = .ok (.iload_n 2, 1) := by decide +kernel
theorem dX10_see_28 : decode cX10_see 28 = .ok (.i2l, 1) := by decide +kernel
theorem dX10_see_29 : decode cX10_see 29 = .ok (.ldc2_w 139, 3) := by decide +kernel
theorem dX10_see_32 : decode cX10_see 32 = .ok (.ldc2_w 141, 3) := by decide +kernel
theorem dX10_see_35 : decode cX10_see 35 = .ok (.invokestatic 96, 3) := by decide +kernel
theorem dX10_see_38 : decode cX10_see 38 = .ok (.ifCond .eq 17, 3) := by decide +kernel
theorem dX10_see_41 : decode cX10_see 41 = .ok (.iload_n 3, 1) := by decide +kernel
theorem dX10_see_42 : decode cX10_see 42 = .ok (.i2l, 1) := by decide +kernel
theorem dX10_see_43 : decode cX10_see 43 = .ok (.ldc2_w 112, 3) := by decide +kernel
theorem dX10_see_46 : decode cX10_see 46 = .ok (.ldc2_w 114, 3) := by decide +kernel
theorem dX10_see_49 : decode cX10_see 49 = .ok (.invokestatic 96, 3) := by decide +kernel
theorem dX10_see_52 : decode cX10_see 52 = .ok (.ifCond .ne 6, 3) := by decide +kernel
theorem dX10_see_55 : decode cX10_see 55 = .ok (.bipush (-2), 2) := by decide +kernel
theorem dX10_see_57 : decode cX10_see 57 = .ok (.ireturn, 1) := by decide +kernel
theorem dX10_see_58 : decode cX10_see 58 = .ok (.aload_n 0, 1) := by decide +kernel
theorem dX10_see_59 : decode cX10_see 59 = .ok (.getfield 276, 3) := by decide +kernel
theorem dX10_see_62 : decode cX10_see 62 = .ok (.iconst 4, 1) := by decide +kernel
theorem dX10_see_63 : decode cX10_see 63 = .ok (.if_icmp .ne 6, 3) := by decide +kernel
theorem dX10_see_66 : decode cX10_see 66 = .ok (.bipush (-4), 2) := by decide +kernel
theorem dX10_see_68 : decode cX10_see 68 = .ok (.ireturn, 1) := by decide +kernel
theorem dX10_see_69 : decode cX10_see 69 = .ok (.aload_n 0, 1) := by decide +kernel
theorem dX10_see_70 : decode cX10_see 70 = .ok (.getfield 25, 3) := by decide +kernel
theorem dX10_see_73 : decode cX10_see 73 = .ok (.iconst 3, 1) := by decide +kernel
theorem dX10_see_74 : decode cX10_see 74 = .ok (.aload_n 0, 1) := by decide +kernel
theorem dX10_see_75 : decode cX10_see 75 = .ok (.getfield 276, 3) := by decide +kernel
theorem dX10_see_78 : decode cX10_see 78 = .ok (.imul, 1) := by decide +kernel
theorem dX10_see_79 : decode cX10_see 79 = .ok (.iload_n 1, 1) := by decide +kernel
theorem dX10_see_80 : decode cX10_see 80 = .ok (.iastore, 1) := by decide +kernel
theorem dX10_see_81 : decode cX10_see 81 = .ok (.aload_n 0, 1) := by decide +kernel
theorem dX10_see_82 : decode cX10_see 82 = .ok (.getfield 25, 3) := by decide +kernel
theorem dX10_see_85 : decode cX10_see 85 = .ok (.iconst 3, 1) := by decide +kernel
theorem dX10_see_86 : decode cX10_see 86 = .ok (.aload_n 0, 1) := by decide +kernel
theorem dX10_see_87 : decode cX10_see 87 = .ok (.getfield 276, 3) := by decide +kernel
theorem dX10_see_90 : decode cX10_see 90 = .ok (.imul, 1) := by decide +kernel
theorem dX10_see_91 : decode cX10_see 91 = .ok (.iconst 1, 1) := by decide +kernel
theorem dX10_see_92 : decode cX10_see 92 = .ok (.iadd, 1) := by decide +kernel
theorem dX10_see_93 : decode cX10_see 93 = .ok (.iload_n 2, 1) := by decide +kernel
theorem dX10_see_94 : decode cX10_see 94 = .ok (.iastore, 1) := by decide +kernel
theorem dX10_see_95 : decode cX10_see 95 = .ok (.aload_n 0, 1) := by decide +kernel
theorem dX10_see_96 : decode cX10_see 96 = .ok (.getfield 25, 3) := by decide +kernel
theorem dX10_see_99 : decode cX10_see 99 = .ok (.iconst 3, 1) := by decide +kernel
theorem dX10_see_100 : decode cX10_see 100 = .ok (.aload_n 0, 1) := by decide +kernel
theorem dX10_see_101 : decode cX10_see 101 = .ok (.getfield 276, 3) := by decide +kernel
theorem dX10_see_104 : decode cX10_see 104 = .ok (.imul, 1) := by decide +kernel
theorem dX10_see_105 : decode cX10_see 105 = .ok (.iconst 2, 1) := by decide +kernel
theorem dX10_see_106 : decode cX10_see 106 = .ok (.iadd, 1) := by decide +kernel
theorem dX10_see_107 : decode cX10_see 107 = .ok (.iload_n 3, 1) := by decide +kernel
theorem dX10_see_108 : decode cX10_see 108 = .ok (.iastore, 1) := by decide +kernel
theorem dX10_see_109 : decode cX10_see 109 = .ok (.aload_n 0, 1) := by decide +kernel
theorem dX10_see_110 : decode cX10_see 110 = .ok (.dup, 1) := by decide +kernel
theorem dX10_see_111 : decode cX10_see 111 = .ok (.getfield 276, 3) := by decide +kernel
theorem dX10_see_114 : decode cX10_see 114 = .ok (.iconst 1, 1) := by decide +kernel
theorem dX10_see_115 : decode cX10_see 115 = .ok (.iadd, 1) := by decide +kernel
theorem dX10_see_116 : decode cX10_see 116 = .ok (.putfield 276, 3) := by decide +kernel
theorem dX10_see_119 : decode cX10_see 119 = .ok (.aload_n 0, 1) := by decide +kernel
theorem dX10_see_120 : decode cX10_see 120 = .ok (.getfield 276, 3) := by decide +kernel
theorem dX10_see_123 : decode cX10_see 123 = .ok (.ireturn, 1) := by decide +kernel
theorem dX10_fits_0 : decode cX10_fits 0 = .ok (.aload_n 0, 1) := by decide +kernel
theorem dX10_fits_1 : decode cX10_fits 1 = .ok (.iload_n 1, 1) := by decide +kernel
theorem dX10_fits_2 : decode cX10_fits 2 = .ok (.invokevirtual 104, 3) := by decide +kernel
theorem dX10_fits_5 : decode cX10_fits 5 = .ok (.ifCond .eq 13, 3) := by decide +kernel
theorem dX10_fits_8 : decode cX10_fits 8 = .ok (.iload_n 2, 1) := by decide +kernel
theorem dX10_fits_9 : decode cX10_fits 9 = .ok (.i2l, 1) := by decide +kernel
theorem dX10_fits_10 : decode cX10_fits 10 = .ok (.lconst 0, 1) := by decide +kernel
theorem dX10_fits_11 : decode cX10_fits 11 = .ok (.lconst 1, 1) := by decide +kernel
theorem dX10_fits_12 : decode cX10_fits 12 = .ok (.invokestatic 96, 3) := by decide +kernel
theorem dX10_fits_15 : decode cX10_fits 15 = .ok (.ifCond .ne 5, 3) := by decide +kernel
theorem dX10_fits_18 : decode cX10_fits 18 = .ok (.iconst (-1), 1) := by decide +kernel
theorem dX10_fits_19 : decode cX10_fits 19 = .ok (.ireturn, 1) := by decide +kernel
theorem dX10_fits_20 : decode cX10_fits 20 = .ok (.aload_n 0, 1) := by decide +kernel
theorem dX10_fits_21 : decode cX10_fits 21 = .ok (.getfield 15, 3) := by decide +kernel
theorem dX10_fits_24 : decode cX10_fits 24 = .ok (.iload_n 1, 1) := by decide +kernel
theorem dX10_fits_25 : decode cX10_fits 25 = .ok (.laload, 1) := by decide +kernel
theorem dX10_fits_26 : decode cX10_fits 26 = .ok (.lstore_n 3, 1) := by decide +kernel
theorem dX10_fits_27 : decode cX10_fits 27 = .ok (.iconst 0, 1) := by decide +kernel
theorem dX10_fits_28 : decode cX10_fits 28 = .ok (.istore 5, 2) := by decide +kernel
theorem dX10_fits_30 : decode cX10_fits 30 = .ok (.iconst 0, 1) := by decide +kernel
theorem dX10_fits_31 : decode cX10_fits 31 = .ok (.istore 6, 2) := by decide +kernel
theorem dX10_fits_33 : decode cX10_fits 33 = .ok (.bipush 99, 2) := by decide +kernel
theorem dX10_fits_35 : decode cX10_fits 35 = .ok (.istore 7, 2) := by decide +kernel
theorem dX10_fits_37 : decode cX10_fits 37 = .ok (.iload 7, 2) := by decide +kernel
theorem dX10_fits_39 : decode cX10_fits 39 = .ok (.bipush (-99), 2) := by decide +kernel
theorem dX10_fits_41 : decode cX10_fits 41 = .ok (.if_icmp .lt 123, 3) := by decide +kernel
theorem dX10_fits_44 : decode cX10_fits 44 = .ok (.aload_n 0, 1) := by decide +kernel
theorem dX10_fits_45 : decode cX10_fits 45 = .ok (.getfield 15, 3) := by decide +kernel
theorem dX10_fits_48 : decode cX10_fits 48 = .ok (.iload_n 1, 1) := by decide +kernel
theorem dX10_fits_49 : decode cX10_fits 49 = .ok (.iload 7, 2) := by decide +kernel
theorem dX10_fits_51 : decode cX10_fits 51 = .ok (.i2l, 1) := by decide +kernel
theorem dX10_fits_52 : decode cX10_fits 52 = .ok (.lastore, 1) := by decide +kernel
theorem dX10_fits_53 : decode cX10_fits 53 = .ok (.iconst 1, 1) := by decide +kernel
theorem dX10_fits_54 : decode cX10_fits 54 = .ok (.istore 8, 2) := by decide +kernel
theorem dX10_fits_56 : decode cX10_fits 56 = .ok (.iconst 0, 1) := by decide +kernel
theorem dX10_fits_57 : decode cX10_fits 57 = .ok (.istore 9, 2) := by decide +kernel
theorem dX10_fits_59 : decode cX10_fits 59 = .ok (.iload 9, 2) := by decide +kernel
theorem dX10_fits_61 : decode cX10_fits 61 = .ok (.aload_n 0, 1) := by decide +kernel
theorem dX10_fits_62 : decode cX10_fits 62 = .ok (.getfield 276, 3) := by decide +kernel
theorem dX10_fits_65 : decode cX10_fits 65 = .ok (.if_icmp .ge 61, 3) := by decide +kernel
theorem dX10_fits_68 : decode cX10_fits 68 = .ok (.iload 8, 2) := by decide +kernel
theorem dX10_fits_70 : decode cX10_fits 70 = .ok (.aload_n 0, 1) := by decide +kernel
theorem dX10_fits_71 : decode cX10_fits 71 = .ok (.aload_n 0, 1) := by decide +kernel
theorem dX10_fits_72 : decode cX10_fits 72 = .ok (.getfield 25, 3) := by decide +kernel
theorem dX10_fits_75 : decode cX10_fits 75 = .ok (.iconst 3, 1) := by decide +kernel
theorem dX10_fits_76 : decode cX10_fits 76 = .ok (.iload 9, 2) := by decide +kernel
theorem dX10_fits_78 : decode cX10_fits 78 = .ok (.imul, 1) := by decide +kernel
theorem dX10_fits_79 : decode cX10_fits 79 = .ok (.iaload, 1) := by decide +kernel
theorem dX10_fits_80 : decode cX10_fits 80 = .ok (.i2l, 1) := by decide +kernel
theorem dX10_fits_81 : decode cX10_fits 81 = .ok (.aload_n 0, 1) := by decide +kernel
theorem dX10_fits_82 : decode cX10_fits 82 = .ok (.getfield 25, 3) := by decide +kernel
theorem dX10_fits_85 : decode cX10_fits 85 = .ok (.iconst 3, 1) := by decide +kernel
theorem dX10_fits_86 : decode cX10_fits 86 = .ok (.iload 9, 2) := by decide +kernel
theorem dX10_fits_88 : decode cX10_fits 88 = .ok (.imul, 1) := by decide +kernel
theorem dX10_fits_89 : decode cX10_fits 89 = .ok (.iconst 1, 1) := by decide +kernel
theorem dX10_fits_90 : decode cX10_fits 90 = .ok (.iadd, 1) := by decide +kernel
theorem dX10_fits_91 : decode cX10_fits 91 = .ok (.iaload, 1) := by decide +kernel
theorem dX10_fits_92 : decode cX10_fits 92 = .ok (.i2l, 1) := by decide +kernel
theorem dX10_fits_93 : decode cX10_fits 93 = .ok (.invokevirtual 146, 3) := by decide +kernel
theorem dX10_fits_96 : decode cX10_fits 96 = .ok (.aload_n 0, 1) := by decide +kernel
theorem dX10_fits_97 : decode cX10_fits 97 = .ok (.getfield 25, 3) := by decide +kernel
theorem dX10_fits_100 : decode cX10_fits 100 = .ok (.iconst 3, 1) := by decide +kernel
theorem dX10_fits_101 : decode cX10_fits 101 = .ok (.iload 9, 2) := by decide +kernel
theorem dX10_fits_103 : decode cX10_fits 103 = .ok (.imul, 1) := by decide +kernel
theorem dX10_fits_104 : decode cX10_fits 104 = .ok (.iconst 2, 1) := by decide +kernel
theorem dX10_fits_105 : decode cX10_fits 105 = .ok (.iadd, 1) := by decide +kernel
theorem dX10_fits_106 : decode cX10_fits 106 = .ok (.iaload, 1) := by decide +kernel
theorem dX10_fits_107 : decode cX10_fits 107 = .ok (.i2l, 1) := by decide +kernel
theorem dX10_fits_108 : decode cX10_fits 108 = .ok (.lcmp, 1) := by decide +kernel
theorem dX10_fits_109 : decode cX10_fits 109 = .ok (.ifCond .ne 7, 3) := by decide +kernel
theorem dX10_fits_112 : decode cX10_fits 112 = .ok (.iconst 1, 1) := by decide +kernel
theorem dX10_fits_113 : decode cX10_fits 113 = .ok (.goto 4, 3) := by decide +kernel
theorem dX10_fits_116 : decode cX10_fits 116 = .ok (.iconst 0, 1) := by decide +kernel
theorem dX10_fits_117 : decode cX10_fits 117 = .ok (.iand, 1) := by decide +kernel
theorem dX10_fits_118 : decode cX10_fits 118 = .ok (.istore 8, 2) := by decide +kernel
theorem dX10_fits_120 : decode cX10_fits 120 = .ok (.iinc 9 1, 3) := by decide +kernel
theorem dX10_fits_123 : decode cX10_fits 123 = .ok (.goto (-64), 3) := by decide +kernel
theorem dX10_fits_126 : decode cX10_fits 126 = .ok (.iload 5, 2) := by decide +kernel
theorem dX10_fits_128 : decode cX10_fits 128 = .ok (.iload 8, 2) := by decide +kernel
theorem dX10_fits_130 : decode cX10_fits 130 = .ok (.ifCond .eq 7, 3) := by decide +kernel
theorem dX10_fits_133 : decode cX10_fits 133 = .ok (.iconst 1, 1) := by decide +kernel
theorem dX10_fits_134 : decode cX10_fits 134 = .ok (.goto 4, 3) := by decide +kernel
theorem dX10_fits_137 : decode cX10_fits 137 = .ok (.iconst 0, 1) := by decide +kernel
theorem dX10_fits_138 : decode cX10_fits 138 = .ok (.iadd, 1) := by decide +kernel
theorem dX10_fits_139 : decode cX10_fits 139 = .ok (.istore 5, 2) := by decide +kernel
theorem dX10_fits_141 : decode cX10_fits 141 = .ok (.iload 8, 2) := by decide +kernel
theorem dX10_fits_143 : decode cX10_fits 143 = .ok (.ifCond .eq 11, 3) := by decide +kernel
theorem dX10_fits_146 : decode cX10_fits 146 = .ok (.iload 7, 2) := by decide +kernel
theorem dX10_fits_148 : decode cX10_fits 148 = .ok (.bipush 100, 2) := by decide +kernel
theorem dX10_fits_150 : decode cX10_fits 150 = .ok (.iadd, 1) := by decide +kernel
theorem dX10_fits_151 : decode cX10_fits 151 = .ok (.goto 5, 3) := by decide +kernel
theorem dX10_fits_154 : decode cX10_fits 154 = .ok (.iload 6, 2) := by decide +kernel
theorem dX10_fits_156 : decode cX10_fits 156 = .ok (.istore 6, 2) := by decide +kernel
theorem dX10_fits_158 : decode cX10_fits 158 = .ok (.iinc 7 (-1), 3) := by decide +kernel
theorem dX10_fits_161 : decode cX10_fits 161 = .ok (.goto (-124), 3) := by decide +kernel
theorem dX10_fits_164 : decode cX10_fits 164 = .ok (.aload_n 0, 1) := by decide +kernel
theorem dX10_fits_165 : decode cX10_fits 165 = .ok (.getfield 15, 3) := by decide +kernel
theorem dX10_fits_168 : decode cX10_fits 168 = .ok (.iload_n 1, 1) := by decide +kernel
theorem dX10_fits_169 : decode cX10_fits 169 = .ok (.lload_n 3, 1) := by decide +kernel
theorem dX10_fits_170 : decode cX10_fits 170 = .ok (.lastore, 1) := by decide +kernel
theorem dX10_fits_171 : decode cX10_fits 171 = .ok (.iload_n 2, 1) := by decide +kernel
theorem dX10_fits_172 : decode cX10_fits 172 = .ok (.ifCond .ne 8, 3) := by decide +kernel
theorem dX10_fits_175 : decode cX10_fits 175 = .ok (.iload 5, 2) := by decide +kernel
theorem dX10_fits_177 : decode cX10_fits 177 = .ok (.goto 5, 3) := by decide +kernel
theorem dX10_fits_180 : decode cX10_fits 180 = .ok (.iload 6, 2) := by decide +kernel
theorem dX10_fits_182 : decode cX10_fits 182 = .ok (.ireturn, 1) := by decide +kernel
