theorem dX0_init_0 : decode cX0_init 0 = .ok (.aload_n 0, 1) := by decide +kernel
theorem dX0_init_1 : decode cX0_init 1 = .ok (.invokespecial 3, 3) := by decide +kernel
theorem dX0_init_4 : decode cX0_init 4 = .ok (.aload_n 0, 1) := by decide +kernel
theorem dX0_init_5 : decode cX0_init 5 = .ok (.iconst 0, 1) := by decide +kernel
theorem dX0_init_6 : decode cX0_init 6 = .ok (.putfield 9, 3) := by decide +kernel
theorem dX0_init_9 : decode cX0_init 9 = .ok (.aload_n 0, 1) := by decide +kernel
theorem dX0_init_10 : decode cX0_init 10 = .ok (.iconst 0, 1) := by decide +kernel
theorem dX0_init_11 : decode cX0_init 11 = .ok (.putfield 15, 3) := by decide +kernel
theorem dX0_init_14 : decode cX0_init 14 = .ok (.aload_n 0, 1) := by decide +kernel
theorem dX0_init_15 : decode cX0_init 15 = .ok (.iconst 0, 1) := by decide +kernel
theorem dX0_init_16 : decode cX0_init 16 = .ok (.putfield 18, 3) := by decide +kernel
theorem dX0_init_19 : decode cX0_init 19 = .ok (.aload_n 0, 1) := by decide +kernel
theorem dX0_init_20 : decode cX0_init 20 = .ok (.iconst 0, 1) := by decide +kernel
theorem dX0_init_21 : decode cX0_init 21 = .ok (.putfield 22, 3) := by decide +kernel
theorem dX0_init_24 : decode cX0_init 24 = .ok (.aload_n 0, 1) := by decide +kernel
theorem dX0_init_25 : decode cX0_init 25 = .ok (.new 25, 3) := by decide +kernel
theorem dX0_init_28 : decode cX0_init 28 = .ok (.dup, 1) := by decide +kernel
theorem dX0_init_29 : decode cX0_init 29 = .ok (.invokespecial 27, 3) := by decide +kernel
theorem dX0_init_32 : decode cX0_init 32 = .ok (.putfield 28, 3) := by decide +kernel
theorem dX0_init_35 : decode cX0_init 35 = .ok (.aload_n 0, 1) := by decide +kernel
theorem dX0_init_36 : decode cX0_init 36 = .ok (.sipush 6561, 3) := by decide +kernel
theorem dX0_init_39 : decode cX0_init 39 = .ok (.newarray .int, 2) := by decide +kernel
theorem dX0_init_41 : decode cX0_init 41 = .ok (.putfield 32, 3) := by decide +kernel
theorem dX0_init_44 : decode cX0_init 44 = .ok (.return_, 1) := by decide +kernel
theorem dX0_xOf_0 : decode cX0_xOf 0 = .ok (.iload_n 0, 1) := by decide +kernel
theorem dX0_xOf_1 : decode cX0_xOf 1 = .ok (.bipush 81, 2) := by decide +kernel
theorem dX0_xOf_3 : decode cX0_xOf 3 = .ok (.idiv, 1) := by decide +kernel
theorem dX0_xOf_4 : decode cX0_xOf 4 = .ok (.bipush 40, 2) := by decide +kernel
theorem dX0_xOf_6 : decode cX0_xOf 6 = .ok (.isub, 1) := by decide +kernel
theorem dX0_xOf_7 : decode cX0_xOf 7 = .ok (.ireturn, 1) := by decide +kernel
theorem dX0_yOf_0 : decode cX0_yOf 0 = .ok (.iload_n 0, 1) := by decide +kernel
theorem dX0_yOf_1 : decode cX0_yOf 1 = .ok (.bipush 81, 2) := by decide +kernel
theorem dX0_yOf_3 : decode cX0_yOf 3 = .ok (.irem, 1) := by decide +kernel
theorem dX0_yOf_4 : decode cX0_yOf 4 = .ok (.bipush 40, 2) := by decide +kernel
theorem dX0_yOf_6 : decode cX0_yOf 6 = .ok (.isub, 1) := by decide +kernel
theorem dX0_yOf_7 : decode cX0_yOf 7 = .ok (.ireturn, 1) := by decide +kernel
theorem dX0_look_0 : decode cX0_look 0 = .ok (.aload_n 0, 1) := by decide +kernel
theorem dX0_look_1 : decode cX0_look 1 = .ok (.getfield 18, 3) := by decide +kernel
theorem dX0_look_4 : decode cX0_look 4 = .ok (.ifCond .eq 15, 3) := by decide +kernel
theorem dX0_look_7 : decode cX0_look 7 = .ok (.aload_n 0, 1) := by decide +kernel
theorem dX0_look_8 : decode cX0_look 8 = .ok (.getfield 28, 3) := by decide +kernel
theorem dX0_look_11 : decode cX0_look 11 = .ok (.aload_n 1, 1) := by decide +kernel
theorem dX0_look_12 : decode cX0_look 12 = .ok (.invokevirtual 36, 3) := by decide +kernel
theorem dX0_look_15 : decode cX0_look 15 = .ok (.ifCond .eq 4, 3) := by decide +kernel
theorem dX0_look_18 : decode cX0_look 18 = .ok (.return_, 1) := by decide +kernel
theorem dX0_look_19 : decode cX0_look 19 = .ok (.aload_n 0, 1) := by decide +kernel
theorem dX0_look_20 : decode cX0_look 20 = .ok (.iconst 1, 1) := by decide +kernel
theorem dX0_look_21 : decode cX0_look 21 = .ok (.putfield 18, 3) := by decide +kernel
theorem dX0_look_24 : decode cX0_look 24 = .ok (.aload_n 0, 1) := by decide +kernel
theorem dX0_look_25 : decode cX0_look 25 = .ok (.getfield 28, 3) := by decide +kernel
theorem dX0_look_28 : decode cX0_look 28 = .ok (.aload_n 1, 1) := by decide +kernel
theorem dX0_look_29 : decode cX0_look 29 = .ok (.invokevirtual 40, 3) := by decide +kernel
theorem dX0_look_32 : decode cX0_look 32 = .ok (.aload_n 0, 1) := by decide +kernel
theorem dX0_look_33 : decode cX0_look 33 = .ok (.iconst 0, 1) := by decide +kernel
theorem dX0_look_34 : decode cX0_look 34 = .ok (.putfield 9, 3) := by decide +kernel
theorem dX0_look_37 : decode cX0_look 37 = .ok (.aload_n 0, 1) := by decide +kernel
theorem dX0_look_38 : decode cX0_look 38 = .ok (.iconst 0, 1) := by decide +kernel
theorem dX0_look_39 : decode cX0_look 39 = .ok (.putfield 15, 3) := by decide +kernel
theorem dX0_look_42 : decode cX0_look 42 = .ok (.aload_n 0, 1) := by decide +kernel
theorem dX0_look_43 : decode cX0_look 43 = .ok (.iconst 0, 1) := by decide +kernel
theorem dX0_look_44 : decode cX0_look 44 = .ok (.putfield 22, 3) := by decide +kernel
theorem dX0_look_47 : decode cX0_look 47 = .ok (.aload_n 0, 1) := by decide +kernel
theorem dX0_look_48 : decode cX0_look 48 = .ok (.getfield 32, 3) := by decide +kernel
theorem dX0_look_51 : decode cX0_look 51 = .ok (.iconst (-1), 1) := by decide +kernel
theorem dX0_look_52 : decode cX0_look 52 = .ok (.invokestatic 44, 3) := by decide +kernel
theorem dX0_look_55 : decode cX0_look 55 = .ok (.aload_n 0, 1) := by decide +kernel
theorem dX0_look_56 : decode cX0_look 56 = .ok (.getfield 28, 3) := by decide +kernel
theorem dX0_look_59 : decode cX0_look 59 = .ok (.getfield 50, 3) := by decide +kernel
theorem dX0_look_62 : decode cX0_look 62 = .ok (.ineg, 1) := by decide +kernel
theorem dX0_look_63 : decode cX0_look 63 = .ok (.istore_n 2, 1) := by decide +kernel
theorem dX0_look_64 : decode cX0_look 64 = .ok (.iload_n 2, 1) := by decide +kernel
theorem dX0_look_65 : decode cX0_look 65 = .ok (.aload_n 0, 1) := by decide +kernel
theorem dX0_look_66 : decode cX0_look 66 = .ok (.getfield 28, 3) := by decide +kernel
theorem dX0_look_69 : decode cX0_look 69 = .ok (.getfield 50, 3) := by decide +kernel
theorem dX0_look_72 : decode cX0_look 72 = .ok (.if_icmp .gt 71, 3) := by decide +kernel
theorem dX0_look_75 : decode cX0_look 75 = .ok (.aload_n 0, 1) := by decide +kernel
theorem dX0_look_76 : decode cX0_look 76 = .ok (.getfield 28, 3) := by decide +kernel
theorem dX0_look_79 : decode cX0_look 79 = .ok (.getfield 50, 3) := by decide +kernel
theorem dX0_look_82 : decode cX0_look 82 = .ok (.ineg, 1) := by decide +kernel
theorem dX0_look_83 : decode cX0_look 83 = .ok (.istore_n 3, 1) := by decide +kernel
theorem dX0_look_84 : decode cX0_look 84 = .ok (.iload_n 3, 1) := by decide +kernel
theorem dX0_look_85 : decode cX0_look 85 = .ok (.aload_n 0, 1) := by decide +kernel
theorem dX0_look_86 : decode cX0_look 86 = .ok (.getfield 28, 3) := by decide +kernel
theorem dX0_look_89 : decode cX0_look 89 = .ok (.getfield 50, 3) := by decide +kernel
theorem dX0_look_92 : decode cX0_look 92 = .ok (.if_icmp .gt 45, 3) := by decide +kernel
theorem dX0_look_95 : decode cX0_look 95 = .ok (.aload_n 0, 1) := by decide +kernel
theorem dX0_look_96 : decode cX0_look 96 = .ok (.getfield 28, 3) := by decide +kernel
theorem dX0_look_99 : decode cX0_look 99 = .ok (.iload_n 2, 1) := by decide +kernel
theorem dX0_look_100 : decode cX0_look 100 = .ok (.i2l, 1) := by decide +kernel
theorem dX0_look_101 : decode cX0_look 101 = .ok (.iload_n 3, 1) := by decide +kernel
theorem dX0_look_102 : decode cX0_look 102 = .ok (.i2l, 1) := by decide +kernel
theorem dX0_look_103 : decode cX0_look 103 = .ok (.invokevirtual 53, 3) := by decide +kernel
theorem dX0_look_106 : decode cX0_look 106 = .ok (.ifCond .eq 25, 3) := by decide +kernel
theorem dX0_look_109 : decode cX0_look 109 = .ok (.aload_n 0, 1) := by decide +kernel
theorem dX0_look_110 : decode cX0_look 110 = .ok (.aload_n 0, 1) := by decide +kernel
theorem dX0_look_111 : decode cX0_look 111 = .ok (.iload_n 2, 1) := by decide +kernel
theorem dX0_look_112 : decode cX0_look 112 = .ok (.iload_n 3, 1) := by decide +kernel
theorem dX0_look_113 : decode cX0_look 113 = .ok (.invokevirtual 57, 3) := by decide +kernel
theorem dX0_look_116 : decode cX0_look 116 = .ok (.bipush (-2), 2) := by decide +kernel
theorem dX0_look_118 : decode cX0_look 118 = .ok (.invokevirtual 61, 3) := by decide +kernel
theorem dX0_look_121 : decode cX0_look 121 = .ok (.aload_n 0, 1) := by decide +kernel
theorem dX0_look_122 : decode cX0_look 122 = .ok (.dup, 1) := by decide +kernel
theorem dX0_look_123 : decode cX0_look 123 = .ok (.getfield 9, 3) := by decide +kernel
theorem dX0_look_126 : decode cX0_look 126 = .ok (.iconst 1, 1) := by decide +kernel
theorem dX0_look_127 : decode cX0_look 127 = .ok (.iadd, 1) := by decide +kernel
theorem dX0_look_128 : decode cX0_look 128 = .ok (.putfield 9, 3) := by decide +kernel
theorem dX0_look_131 : decode cX0_look 131 = .ok (.iinc 3 1, 3) := by decide +kernel
theorem dX0_look_134 : decode cX0_look 134 = .ok (.goto (-50), 3) := by decide +kernel
theorem dX0_look_137 : decode cX0_look 137 = .ok (.iinc 2 1, 3) := by decide +kernel
theorem dX0_look_140 : decode cX0_look 140 = .ok (.goto (-76), 3) := by decide +kernel
theorem dX0_look_143 : decode cX0_look 143 = .ok (.return_, 1) := by decide +kernel
theorem dX0_findFamilies_0 : decode cX0_findFamilies 0 = .ok (.aload_n 0, 1) := by decide +kernel
theorem dX0_findFamilies_1 : decode cX0_findFamilies 1 = .ok (.getfield 22, 3) := by decide +kernel
theorem dX0_findFamilies_4 : decode cX0_findFamilies 4 = .ok (.ifCond .eq 4, 3) := by decide +kernel
theorem dX0_findFamilies_7 : decode cX0_findFamilies 7 = .ok (.return_, 1) := by decide +kernel
theorem dX0_findFamilies_8 : decode cX0_findFamilies 8 = .ok (.aload_n 0, 1) := by decide +kernel
theorem dX0_findFamilies_9 : decode cX0_findFamilies 9 = .ok (.iconst 1, 1) := by decide +kernel
theorem dX0_findFamilies_10 : decode cX0_findFamilies 10 = .ok (.putfield 22, 3) := by decide +kernel
theorem dX0_findFamilies_13 : decode cX0_findFamilies 13 = .ok (.aload_n 1, 1) := by decide +kernel
theorem dX0_findFamilies_14 : decode cX0_findFamilies 14 = .ok (.aload_n 0, 1) := by decide +kernel
theorem dX0_findFamilies_15 : decode cX0_findFamilies 15 = .ok (.getfield 28, 3) := by decide +kernel
theorem dX0_findFamilies_18 : decode cX0_findFamilies 18 = .ok (.getfield 65, 3) := by decide +kernel
theorem dX0_findFamilies_21 : decode cX0_findFamilies 21 = .ok (.invokevirtual 69, 3) := by decide +kernel
theorem dX0_findFamilies_24 : decode cX0_findFamilies 24 = .ok (.iconst 0, 1) := by decide +kernel
theorem dX0_findFamilies_25 : decode cX0_findFamilies 25 = .ok (.istore_n 2, 1) := by decide +kernel
theorem dX0_findFamilies_26 : decode cX0_findFamilies 26 = .ok (.iload_n 2, 1) := by decide +kernel
theorem dX0_findFamilies_27 : decode cX0_findFamilies 27 = .ok (.aload_n 0, 1) := by decide +kernel
theorem dX0_findFamilies_28 : decode cX0_findFamilies 28 = .ok (.getfield 32, 3) := by decide +kernel
theorem dX0_findFamilies_31 : decode cX0_findFamilies 31 = .ok (.arraylength, 1) := by decide +kernel
theorem dX0_findFamilies_32 : decode cX0_findFamilies 32 = .ok (.if_icmp .ge 36, 3) := by decide +kernel
theorem dX0_findFamilies_35 : decode cX0_findFamilies 35 = .ok (.aload_n 0, 1) := by decide +kernel
theorem dX0_findFamilies_36 : decode cX0_findFamilies 36 = .ok (.getfield 32, 3) := by decide +kernel
theorem dX0_findFamilies_39 : decode cX0_findFamilies 39 = .ok (.iload_n 2, 1) := by decide +kernel
theorem dX0_findFamilies_40 : decode cX0_findFamilies 40 = .ok (.iaload, 1) := by decide +kernel
theorem dX0_findFamilies_41 : decode cX0_findFamilies 41 = .ok (.bipush (-2), 2) := by decide +kernel
theorem dX0_findFamilies_43 : decode cX0_findFamilies 43 = .ok (.if_icmp .ne 19, 3) := by decide +kernel
theorem dX0_findFamilies_46 : decode cX0_findFamilies 46 = .ok (.aload_n 0, 1) := by decide +kernel
theorem dX0_findFamilies_47 : decode cX0_findFamilies 47 = .ok (.iload_n 2, 1) := by decide +kernel
theorem dX0_findFamilies_48 : decode cX0_findFamilies 48 = .ok (.aload_n 1, 1) := by decide +kernel
theorem dX0_findFamilies_49 : decode cX0_findFamilies 49 = .ok (.invokevirtual 75, 3) := by decide +kernel
theorem dX0_findFamilies_52 : decode cX0_findFamilies 52 = .ok (.aload_n 0, 1) := by decide +kernel
theorem dX0_findFamilies_53 : decode cX0_findFamilies 53 = .ok (.dup, 1) := by decide +kernel
theorem dX0_findFamilies_54 : decode cX0_findFamilies 54 = .ok (.getfield 15, 3) := by decide +kernel
theorem dX0_findFamilies_57 : decode cX0_findFamilies 57 = .ok (.iconst 1, 1) := by decide +kernel
theorem dX0_findFamilies_58 : decode cX0_findFamilies 58 = .ok (.iadd, 1) := by decide +kernel
theorem dX0_findFamilies_59 : decode cX0_findFamilies 59 = .ok (.putfield 15, 3) := by decide +kernel
theorem dX0_findFamilies_62 : decode cX0_findFamilies 62 = .ok (.iinc 2 1, 3) := by decide +kernel
theorem dX0_findFamilies_65 : decode cX0_findFamilies 65 = .ok (.goto (-39), 3) := by decide +kernel
theorem dX0_findFamilies_68 : decode cX0_findFamilies 68 = .ok (.return_, 1) := by decide +kernel
theorem dX0_cellOfAnswer_0 : decode cX0_cellOfAnswer 0 = .ok (.iconst 0, 1) := by decide +kernel
theorem dX0_cellOfAnswer_1 : decode cX0_cellOfAnswer 1 = .ok (.istore_n 2, 1) := by decide +kernel
theorem dX0_cellOfAnswer_2 : decode cX0_cellOfAnswer 2 = .ok (.iconst 0, 1) := by decide +kernel
theorem dX0_cellOfAnswer_3 : decode cX0_cellOfAnswer 3 = .ok (.istore_n 3, 1) := by decide +kernel
theorem dX0_cellOfAnswer_4 : decode cX0_cellOfAnswer 4 = .ok (.iload_n 3, 1) := by decide +kernel
theorem dX0_cellOfAnswer_5 : decode cX0_cellOfAnswer 5 = .ok (.aload_n 0, 1) := by decide +kernel
theorem dX0_cellOfAnswer_6 : decode cX0_cellOfAnswer 6 = .ok (.getfield 32, 3) := by decide +kernel
theorem dX0_cellOfAnswer_9 : decode cX0_cellOfAnswer 9 = .ok (.arraylength, 1) := by decide +kernel
theorem dX0_cellOfAnswer_10 : decode cX0_cellOfAnswer 10 = .ok (.if_icmp .ge 32, 3) := by decide +kernel
theorem dX0_cellOfAnswer_13 : decode cX0_cellOfAnswer 13 = .ok (.aload_n 0, 1) := by decide +kernel
theorem dX0_cellOfAnswer_14 : decode cX0_cellOfAnswer 14 = .ok (.getfield 32, 3) := by decide +kernel
theorem dX0_cellOfAnswer_17 : decode cX0_cellOfAnswer 17 = .ok (.iload_n 3, 1) := by decide +kernel
theorem dX0_cellOfAnswer_18 : decode cX0_cellOfAnswer 18 = .ok (.iaload, 1) := by decide +kernel
theorem dX0_cellOfAnswer_19 : decode cX0_cellOfAnswer 19 = .ok (.iconst (-1), 1) := by decide +kernel
theorem dX0_cellOfAnswer_20 : decode cX0_cellOfAnswer 20 = .ok (.if_icmp .ne 6, 3) := by decide +kernel
theorem dX0_cellOfAnswer_23 : decode cX0_cellOfAnswer 23 = .ok (.goto 13, 3) := by decide +kernel
theorem dX0_cellOfAnswer_26 : decode cX0_cellOfAnswer 26 = .ok (.iload_n 2, 1) := by decide +kernel
theorem dX0_cellOfAnswer_27 : decode cX0_cellOfAnswer 27 = .ok (.iload_n 1, 1) := by decide +kernel
theorem dX0_cellOfAnswer_28 : decode cX0_cellOfAnswer 28 = .ok (.if_icmp .ne 5, 3) := by decide +kernel
theorem dX0_cellOfAnswer_31 : decode cX0_cellOfAnswer 31 = .ok (.iload_n 3, 1) := by decide +kernel
theorem dX0_cellOfAnswer_32 : decode cX0_cellOfAnswer 32 = .ok (.ireturn, 1) := by decide +kernel
theorem dX0_cellOfAnswer_33 : decode cX0_cellOfAnswer 33 = .ok (.iinc 2 1, 3) := by decide +kernel
theorem dX0_cellOfAnswer_36 : decode cX0_cellOfAnswer 36 = .ok (.iinc 3 1, 3) := by decide +kernel
theorem dX0_cellOfAnswer_39 : decode cX0_cellOfAnswer 39 = .ok (.goto (-35), 3) := by decide +kernel
theorem dX0_cellOfAnswer_42 : decode cX0_cellOfAnswer 42 = .ok (.iconst (-1), 1) := by decide +kernel
theorem dX0_cellOfAnswer_43 : decode cX0_cellOfAnswer 43 = .ok (.ireturn, 1) := by decide +kernel
theorem dX0_sizeOfFamily_0 : decode cX0_sizeOfFamily 0 = .ok (.iconst 0, 1) := by decide +kernel
theorem dX0_sizeOfFamily_1 : decode cX0_sizeOfFamily 1 = .ok (.istore_n 2, 1) := by decide +kernel
theorem dX0_sizeOfFamily_2 : decode cX0_sizeOfFamily 2 = .ok (.iconst 0, 1) := by decide +kernel
theorem dX0_sizeOfFamily_3 : decode cX0_sizeOfFamily 3 = .ok (.istore_n 3, 1) := by decide +kernel
theorem dX0_sizeOfFamily_4 : decode cX0_sizeOfFamily 4 = .ok (.iload_n 3, 1) := by decide +kernel
theorem dX0_sizeOfFamily_5 : decode cX0_sizeOfFamily 5 = .ok (.aload_n 0, 1) := by decide +kernel
theorem dX0_sizeOfFamily_6 : decode cX0_sizeOfFamily 6 = .ok (.getfield 32, 3) := by decide +kernel
theorem dX0_sizeOfFamily_9 : decode cX0_sizeOfFamily 9 = .ok (.arraylength, 1) := by decide +kernel
theorem dX0_sizeOfFamily_10 : decode cX0_sizeOfFamily 10 = .ok (.if_icmp .ge 22, 3) := by decide +kernel
theorem dX0_sizeOfFamily_13 : decode cX0_sizeOfFamily 13 = .ok (.aload_n 0, 1) := by decide +kernel
theorem dX0_sizeOfFamily_14 : decode cX0_sizeOfFamily 14 = .ok (.getfield 32, 3) := by decide +kernel
theorem dX0_sizeOfFamily_17 : decode cX0_sizeOfFamily 17 = .ok (.iload_n 3, 1) := by decide +kernel
theorem dX0_sizeOfFamily_18 : decode cX0_sizeOfFamily 18 = .ok (.iaload, 1) := by decide +kernel
theorem dX0_sizeOfFamily_19 : decode cX0_sizeOfFamily 19 = .ok (.iload_n 1, 1) := by decide +kernel
theorem dX0_sizeOfFamily_20 : decode cX0_sizeOfFamily 20 = .ok (.if_icmp .ne 6, 3) := by decide +kernel
theorem dX0_sizeOfFamily_23 : decode cX0_sizeOfFamily 23 = .ok (.iinc 2 1, 3) := by decide +kernel
theorem dX0_sizeOfFamily_26 : decode cX0_sizeOfFamily 26 = .ok (.iinc 3 1, 3) := by decide +kernel
theorem dX0_sizeOfFamily_29 : decode cX0_sizeOfFamily 29 = .ok (.goto (-25), 3) := by decide +kernel
theorem dX0_sizeOfFamily_32 : decode cX0_sizeOfFamily 32 = .ok (.iload_n 2, 1) := by decide +kernel
theorem dX0_sizeOfFamily_33 : decode cX0_sizeOfFamily 33 = .ok (.ireturn, 1) := by decide +kernel
theorem dX0_labelAt_0 : decode cX0_labelAt 0 = .ok (.iload_n 1, 1) := by decide +kernel
theorem dX0_labelAt_1 : decode cX0_labelAt 1 = .ok (.ifCond .lt 21, 3) := by decide +kernel
theorem dX0_labelAt_4 : decode cX0_labelAt 4 = .ok (.iload_n 1, 1) := by decide +kernel
theorem dX0_labelAt_5 : decode cX0_labelAt 5 = .ok (.aload_n 0, 1) := by decide +kernel
theorem dX0_labelAt_6 : decode cX0_labelAt 6 = .ok (.getfield 32, 3) := by decide +kernel
theorem dX0_labelAt_9 : decode cX0_labelAt 9 = .ok (.arraylength, 1) := by decide +kernel
theorem dX0_labelAt_10 : decode cX0_labelAt 10 = .ok (.if_icmp .ge 12, 3) := by decide +kernel
theorem dX0_labelAt_13 : decode cX0_labelAt 13 = .ok (.aload_n 0, 1) := by decide +kernel
theorem dX0_labelAt_14 : decode cX0_labelAt 14 = .ok (.getfield 32, 3) := by decide +kernel
theorem dX0_labelAt_17 : decode cX0_labelAt 17 = .ok (.iload_n 1, 1) := by decide +kernel
theorem dX0_labelAt_18 : decode cX0_labelAt 18 = .ok (.iaload, 1) := by decide +kernel
theorem dX0_labelAt_19 : decode cX0_labelAt 19 = .ok (.goto 4, 3) := by decide +kernel
theorem dX0_labelAt_22 : decode cX0_labelAt 22 = .ok (.iconst (-1), 1) := by decide +kernel
theorem dX0_labelAt_23 : decode cX0_labelAt 23 = .ok (.ireturn, 1) := by decide +kernel
theorem dX0_setLabel_0 : decode cX0_setLabel 0 = .ok (.iload_n 1, 1) := by decide +kernel
theorem dX0_setLabel_1 : decode cX0_setLabel 1 = .ok (.ifCond .lt 19, 3) := by decide +kernel
theorem dX0_setLabel_4 : decode cX0_setLabel 4 = .ok (.iload_n 1, 1) := by decide +kernel
theorem dX0_setLabel_5 : decode cX0_setLabel 5 = .ok (.aload_n 0, 1) := by decide +kernel
theorem dX0_setLabel_6 : decode cX0_setLabel 6 = .ok (.getfield 32, 3) := by decide +kernel
theorem dX0_setLabel_9 : decode cX0_setLabel 9 = .ok (.arraylength, 1) := by decide +kernel
theorem dX0_setLabel_10 : decode cX0_setLabel 10 = .ok (.if_icmp .ge 10, 3) := by decide +kernel
theorem dX0_setLabel_13 : decode cX0_setLabel 13 = .ok (.aload_n 0, 1) := by decide +kernel
theorem dX0_setLabel_14 : decode cX0_setLabel 14 = .ok (.getfield 32, 3) := by decide +kernel
theorem dX0_setLabel_17 : decode cX0_setLabel 17 = .ok (.iload_n 1, 1) := by decide +kernel
theorem dX0_setLabel_18 : decode cX0_setLabel 18 = .ok (.iload_n 2, 1) := by decide +kernel
theorem dX0_setLabel_19 : decode cX0_setLabel 19 = .ok (.iastore, 1) := by decide +kernel
theorem dX0_setLabel_20 : decode cX0_setLabel 20 = .ok (.return_, 1) := by decide +kernel
theorem dX0_cellAt_0 : decode cX0_cellAt 0 = .ok (.aload_n 0, 1) := by decide +kernel
theorem dX0_cellAt_1 : decode cX0_cellAt 1 = .ok (.getfield 28, 3) := by decide +kernel
theorem dX0_cellAt_4 : decode cX0_cellAt 4 = .ok (.iload_n 1, 1) := by decide +kernel
theorem dX0_cellAt_5 : decode cX0_cellAt 5 = .ok (.i2l, 1) := by decide +kernel
theorem dX0_cellAt_6 : decode cX0_cellAt 6 = .ok (.iload_n 2, 1) := by decide +kernel
theorem dX0_cellAt_7 : decode cX0_cellAt 7 = .ok (.i2l, 1) := by decide +kernel
theorem dX0_cellAt_8 : decode cX0_cellAt 8 = .ok (.invokevirtual 79, 3) := by decide +kernel
theorem dX0_cellAt_11 : decode cX0_cellAt 11 = .ok (.ifCond .eq 18, 3) := by decide +kernel
theorem dX0_cellAt_14 : decode cX0_cellAt 14 = .ok (.iload_n 1, 1) := by decide +kernel
theorem dX0_cellAt_15 : decode cX0_cellAt 15 = .ok (.bipush 40, 2) := by decide +kernel
theorem dX0_cellAt_17 : decode cX0_cellAt 17 = .ok (.iadd, 1) := by decide +kernel
theorem dX0_cellAt_18 : decode cX0_cellAt 18 = .ok (.bipush 81, 2) := by decide +kernel
theorem dX0_cellAt_20 : decode cX0_cellAt 20 = .ok (.imul, 1) := by decide +kernel
theorem dX0_cellAt_21 : decode cX0_cellAt 21 = .ok (.iload_n 2, 1) := by decide +kernel
theorem dX0_cellAt_22 : decode cX0_cellAt 22 = .ok (.iadd, 1) := by decide +kernel
theorem dX0_cellAt_23 : decode cX0_cellAt 23 = .ok (.bipush 40, 2) := by decide +kernel
theorem dX0_cellAt_25 : decode cX0_cellAt 25 = .ok (.iadd, 1) := by decide +kernel
theorem dX0_cellAt_26 : decode cX0_cellAt 26 = .ok (.goto 4, 3) := by decide +kernel
theorem dX0_cellAt_29 : decode cX0_cellAt 29 = .ok (.iconst (-1), 1) := by decide +kernel
theorem dX0_cellAt_30 : decode cX0_cellAt 30 = .ok (.ireturn, 1) := by decide +kernel
theorem dX0_spread_0 : decode cX0_spread 0 = .ok (.aload_n 0, 1) := by decide +kernel
theorem dX0_spread_1 : decode cX0_spread 1 = .ok (.iload_n 1, 1) := by decide +kernel
theorem dX0_spread_2 : decode cX0_spread 2 = .ok (.iconst (-1), 1) := by decide +kernel
theorem dX0_spread_3 : decode cX0_spread 3 = .ok (.invokevirtual 82, 3) := by decide +kernel
theorem dX0_spread_6 : decode cX0_spread 6 = .ok (.istore_n 3, 1) := by decide +kernel
theorem dX0_spread_7 : decode cX0_spread 7 = .ok (.iconst 0, 1) := by decide +kernel
theorem dX0_spread_8 : decode cX0_spread 8 = .ok (.istore 4, 2) := by decide +kernel
theorem dX0_spread_10 : decode cX0_spread 10 = .ok (.iload 4, 2) := by decide +kernel
theorem dX0_spread_12 : decode cX0_spread 12 = .ok (.aload_n 0, 1) := by decide +kernel
theorem dX0_spread_13 : decode cX0_spread 13 = .ok (.getfield 32, 3) := by decide +kernel
theorem dX0_spread_16 : decode cX0_spread 16 = .ok (.arraylength, 1) := by decide +kernel
theorem dX0_spread_17 : decode cX0_spread 17 = .ok (.if_icmp .ge 124, 3) := by decide +kernel
theorem dX0_spread_20 : decode cX0_spread 20 = .ok (.iload_n 3, 1) := by decide +kernel
theorem dX0_spread_21 : decode cX0_spread 21 = .ok (.iconst (-1), 1) := by decide +kernel
theorem dX0_spread_22 : decode cX0_spread 22 = .ok (.if_icmp .eq 119, 3) := by decide +kernel
theorem dX0_spread_25 : decode cX0_spread 25 = .ok (.iload_n 3, 1) := by decide +kernel
theorem dX0_spread_26 : decode cX0_spread 26 = .ok (.istore 5, 2) := by decide +kernel
theorem dX0_spread_28 : decode cX0_spread 28 = .ok (.aload_n 0, 1) := by decide +kernel
theorem dX0_spread_29 : decode cX0_spread 29 = .ok (.iload 5, 2) := by decide +kernel
theorem dX0_spread_31 : decode cX0_spread 31 = .ok (.invokevirtual 85, 3) := by decide +kernel
theorem dX0_spread_34 : decode cX0_spread 34 = .ok (.istore_n 3, 1) := by decide +kernel
theorem dX0_spread_35 : decode cX0_spread 35 = .ok (.aload_n 0, 1) := by decide +kernel
theorem dX0_spread_36 : decode cX0_spread 36 = .ok (.iload 5, 2) := by decide +kernel
theorem dX0_spread_38 : decode cX0_spread 38 = .ok (.aload_n 0, 1) := by decide +kernel
theorem dX0_spread_39 : decode cX0_spread 39 = .ok (.getfield 15, 3) := by decide +kernel
theorem dX0_spread_42 : decode cX0_spread 42 = .ok (.invokevirtual 61, 3) := by decide +kernel
theorem dX0_spread_45 : decode cX0_spread 45 = .ok (.iconst 0, 1) := by decide +kernel
theorem dX0_spread_46 : decode cX0_spread 46 = .ok (.istore 6, 2) := by decide +kernel
theorem dX0_spread_48 : decode cX0_spread 48 = .ok (.iload 6, 2) := by decide +kernel
theorem dX0_spread_50 : decode cX0_spread 50 = .ok (.aload_n 2, 1) := by decide +kernel
theorem dX0_spread_51 : decode cX0_spread 51 = .ok (.getfield 89, 3) := by decide +kernel
theorem dX0_spread_54 : decode cX0_spread 54 = .ok (.if_icmp .ge 81, 3) := by decide +kernel
theorem dX0_spread_57 : decode cX0_spread 57 = .ok (.aload_n 2, 1) := by decide +kernel
theorem dX0_spread_58 : decode cX0_spread 58 = .ok (.iload 6, 2) := by decide +kernel
theorem dX0_spread_60 : decode cX0_spread 60 = .ok (.iconst 0, 1) := by decide +kernel
theorem dX0_spread_61 : decode cX0_spread 61 = .ok (.invokevirtual 90, 3) := by decide +kernel
theorem dX0_spread_64 : decode cX0_spread 64 = .ok (.iload 5, 2) := by decide +kernel
theorem dX0_spread_66 : decode cX0_spread 66 = .ok (.invokestatic 93, 3) := by decide +kernel
theorem dX0_spread_69 : decode cX0_spread 69 = .ok (.imul, 1) := by decide +kernel
theorem dX0_spread_70 : decode cX0_spread 70 = .ok (.aload_n 2, 1) := by decide +kernel
theorem dX0_spread_71 : decode cX0_spread 71 = .ok (.iload 6, 2) := by decide +kernel
theorem dX0_spread_73 : decode cX0_spread 73 = .ok (.iconst 1, 1) := by decide +kernel
theorem dX0_spread_74 : decode cX0_spread 74 = .ok (.invokevirtual 90, 3) := by decide +kernel
theorem dX0_spread_77 : decode cX0_spread 77 = .ok (.iload 5, 2) := by decide +kernel
theorem dX0_spread_79 : decode cX0_spread 79 = .ok (.invokestatic 96, 3) := by decide +kernel
theorem dX0_spread_82 : decode cX0_spread 82 = .ok (.imul, 1) := by decide +kernel
theorem dX0_spread_83 : decode cX0_spread 83 = .ok (.iadd, 1) := by decide +kernel
theorem dX0_spread_84 : decode cX0_spread 84 = .ok (.istore 7, 2) := by decide +kernel
theorem dX0_spread_86 : decode cX0_spread 86 = .ok (.aload_n 2, 1) := by decide +kernel
theorem dX0_spread_87 : decode cX0_spread 87 = .ok (.iload 6, 2) := by decide +kernel
theorem dX0_spread_89 : decode cX0_spread 89 = .ok (.iconst 2, 1) := by decide +kernel
theorem dX0_spread_90 : decode cX0_spread 90 = .ok (.invokevirtual 90, 3) := by decide +kernel
theorem dX0_spread_93 : decode cX0_spread 93 = .ok (.iload 5, 2) := by decide +kernel
theorem dX0_spread_95 : decode cX0_spread 95 = .ok (.invokestatic 93, 3) := by decide +kernel
theorem dX0_spread_98 : decode cX0_spread 98 = .ok (.imul, 1) := by decide +kernel
theorem dX0_spread_99 : decode cX0_spread 99 = .ok (.aload_n 2, 1) := by decide +kernel
theorem dX0_spread_100 : decode cX0_spread 100 = .ok (.iload 6, 2) := by decide +kernel
theorem dX0_spread_102 : decode cX0_spread 102 = .ok (.iconst 3, 1) := by decide +kernel
theorem dX0_spread_103 : decode cX0_spread 103 = .ok (.invokevirtual 90, 3) := by decide +kernel
theorem dX0_spread_106 : decode cX0_spread 106 = .ok (.iload 5, 2) := by decide +kernel
theorem dX0_spread_108 : decode cX0_spread 108 = .ok (.invokestatic 96, 3) := by decide +kernel
theorem dX0_spread_111 : decode cX0_spread 111 = .ok (.imul, 1) := by decide +kernel
theorem dX0_spread_112 : decode cX0_spread 112 = .ok (.iadd, 1) := by decide +kernel
theorem dX0_spread_113 : decode cX0_spread 113 = .ok (.istore 8, 2) := by decide +kernel
theorem dX0_spread_115 : decode cX0_spread 115 = .ok (.aload_n 0, 1) := by decide +kernel
theorem dX0_spread_116 : decode cX0_spread 116 = .ok (.aload_n 0, 1) := by decide +kernel
theorem dX0_spread_117 : decode cX0_spread 117 = .ok (.iload 7, 2) := by decide +kernel
theorem dX0_spread_119 : decode cX0_spread 119 = .ok (.iload 8, 2) := by decide +kernel
theorem dX0_spread_121 : decode cX0_spread 121 = .ok (.invokevirtual 57, 3) := by decide +kernel
theorem dX0_spread_124 : decode cX0_spread 124 = .ok (.iload_n 3, 1) := by decide +kernel
theorem dX0_spread_125 : decode cX0_spread 125 = .ok (.invokevirtual 82, 3) := by decide +kernel
theorem dX0_spread_128 : decode cX0_spread 128 = .ok (.istore_n 3, 1) := by decide +kernel
theorem dX0_spread_129 : decode cX0_spread 129 = .ok (.iinc 6 1, 3) := by decide +kernel
theorem dX0_spread_132 : decode cX0_spread 132 = .ok (.goto (-84), 3) := by decide +kernel
theorem dX0_spread_135 : decode cX0_spread 135 = .ok (.iinc 4 1, 3) := by decide +kernel
theorem dX0_spread_138 : decode cX0_spread 138 = .ok (.goto (-128), 3) := by decide +kernel
theorem dX0_spread_141 : decode cX0_spread 141 = .ok (.return_, 1) := by decide +kernel
theorem dX0_await_0 : decode cX0_await 0 = .ok (.aload_n 0, 1) := by decide +kernel
theorem dX0_await_1 : decode cX0_await 1 = .ok (.iload_n 1, 1) := by decide +kernel
theorem dX0_await_2 : decode cX0_await 2 = .ok (.invokevirtual 99, 3) := by decide +kernel
theorem dX0_await_5 : decode cX0_await 5 = .ok (.bipush (-2), 2) := by decide +kernel
theorem dX0_await_7 : decode cX0_await 7 = .ok (.if_icmp .eq 5, 3) := by decide +kernel
theorem dX0_await_10 : decode cX0_await 10 = .ok (.iload_n 2, 1) := by decide +kernel
theorem dX0_await_11 : decode cX0_await 11 = .ok (.ireturn, 1) := by decide +kernel
theorem dX0_await_12 : decode cX0_await 12 = .ok (.aload_n 0, 1) := by decide +kernel
theorem dX0_await_13 : decode cX0_await 13 = .ok (.iload_n 1, 1) := by decide +kernel
theorem dX0_await_14 : decode cX0_await 14 = .ok (.bipush (-4), 2) := by decide +kernel
theorem dX0_await_16 : decode cX0_await 16 = .ok (.iload_n 2, 1) := by decide +kernel
theorem dX0_await_17 : decode cX0_await 17 = .ok (.isub, 1) := by decide +kernel
theorem dX0_await_18 : decode cX0_await 18 = .ok (.invokevirtual 61, 3) := by decide +kernel
theorem dX0_await_21 : decode cX0_await 21 = .ok (.iload_n 1, 1) := by decide +kernel
theorem dX0_await_22 : decode cX0_await 22 = .ok (.ireturn, 1) := by decide +kernel
theorem dX0_behind_0 : decode cX0_behind 0 = .ok (.aload_n 0, 1) := by decide +kernel
theorem dX0_behind_1 : decode cX0_behind 1 = .ok (.iload_n 1, 1) := by decide +kernel
theorem dX0_behind_2 : decode cX0_behind 2 = .ok (.invokevirtual 99, 3) := by decide +kernel
theorem dX0_behind_5 : decode cX0_behind 5 = .ok (.istore_n 2, 1) := by decide +kernel
theorem dX0_behind_6 : decode cX0_behind 6 = .ok (.iload_n 2, 1) := by decide +kernel
theorem dX0_behind_7 : decode cX0_behind 7 = .ok (.bipush (-3), 2) := by decide +kernel
theorem dX0_behind_9 : decode cX0_behind 9 = .ok (.if_icmp .ge 10, 3) := by decide +kernel
theorem dX0_behind_12 : decode cX0_behind 12 = .ok (.bipush (-4), 2) := by decide +kernel
theorem dX0_behind_14 : decode cX0_behind 14 = .ok (.iload_n 2, 1) := by decide +kernel
theorem dX0_behind_15 : decode cX0_behind 15 = .ok (.isub, 1) := by decide +kernel
theorem dX0_behind_16 : decode cX0_behind 16 = .ok (.goto 4, 3) := by decide +kernel
theorem dX0_behind_19 : decode cX0_behind 19 = .ok (.iconst (-1), 1) := by decide +kernel
theorem dX0_behind_20 : decode cX0_behind 20 = .ok (.ireturn, 1) := by decide +kernel
theorem dX1_init_0 : decode cX1_init 0 = .ok (.aload_n 0, 1) := by decide +kernel
theorem dX1_init_1 : decode cX1_init 1 = .ok (.invokespecial 3, 3) := by decide +kernel
theorem dX1_init_4 : decode cX1_init 4 = .ok (.aload_n 0, 1) := by decide +kernel
theorem dX1_init_5 : decode cX1_init 5 = .ok (.new 9, 3) := by decide +kernel
theorem dX1_init_8 : decode cX1_init 8 = .ok (.dup, 1) := by decide +kernel
theorem dX1_init_9 : decode cX1_init 9 = .ok (.invokespecial 11, 3) := by decide +kernel
theorem dX1_init_12 : decode cX1_init 12 = .ok (.putfield 12, 3) := by decide +kernel
theorem dX1_init_15 : decode cX1_init 15 = .ok (.aload_n 0, 1) := by decide +kernel
theorem dX1_init_16 : decode cX1_init 16 = .ok (.iconst 1, 1) := by decide +kernel
theorem dX1_init_17 : decode cX1_init 17 = .ok (.putfield 18, 3) := by decide +kernel
theorem dX1_init_20 : decode cX1_init 20 = .ok (.aload_n 0, 1) := by decide +kernel
theorem dX1_init_21 : decode cX1_init 21 = .ok (.bipush 10, 2) := by decide +kernel
theorem dX1_init_23 : decode cX1_init 23 = .ok (.putfield 22, 3) := by decide +kernel
theorem dX1_init_26 : decode cX1_init 26 = .ok (.return_, 1) := by decide +kernel
theorem dX1_copy_0 : decode cX1_copy 0 = .ok (.aload_n 0, 1) := by decide +kernel
theorem dX1_copy_1 : decode cX1_copy 1 = .ok (.getfield 12, 3) := by decide +kernel
theorem dX1_copy_4 : decode cX1_copy 4 = .ok (.aload_n 1, 1) := by decide +kernel
theorem dX1_copy_5 : decode cX1_copy 5 = .ok (.getfield 12, 3) := by decide +kernel
theorem dX1_copy_8 : decode cX1_copy 8 = .ok (.invokevirtual 25, 3) := by decide +kernel
theorem dX1_copy_11 : decode cX1_copy 11 = .ok (.aload_n 0, 1) := by decide +kernel
theorem dX1_copy_12 : decode cX1_copy 12 = .ok (.aload_n 1, 1) := by decide +kernel
theorem dX1_copy_13 : decode cX1_copy 13 = .ok (.getfield 18, 3) := by decide +kernel
theorem dX1_copy_16 : decode cX1_copy 16 = .ok (.putfield 18, 3) := by decide +kernel
theorem dX1_copy_19 : decode cX1_copy 19 = .ok (.aload_n 0, 1) := by decide +kernel
theorem dX1_copy_20 : decode cX1_copy 20 = .ok (.aload_n 1, 1) := by decide +kernel
theorem dX1_copy_21 : decode cX1_copy 21 = .ok (.getfield 22, 3) := by decide +kernel
theorem dX1_copy_24 : decode cX1_copy 24 = .ok (.putfield 22, 3) := by decide +kernel
theorem dX1_copy_27 : decode cX1_copy 27 = .ok (.return_, 1) := by decide +kernel
theorem dX1_isLike_0 : decode cX1_isLike 0 = .ok (.aload_n 0, 1) := by decide +kernel
theorem dX1_isLike_1 : decode cX1_isLike 1 = .ok (.getfield 18, 3) := by decide +kernel
theorem dX1_isLike_4 : decode cX1_isLike 4 = .ok (.aload_n 1, 1) := by decide +kernel
theorem dX1_isLike_5 : decode cX1_isLike 5 = .ok (.getfield 18, 3) := by decide +kernel
theorem dX1_isLike_8 : decode cX1_isLike 8 = .ok (.if_icmp .ne 32, 3) := by decide +kernel
theorem dX1_isLike_11 : decode cX1_isLike 11 = .ok (.aload_n 0, 1) := by decide +kernel
theorem dX1_isLike_12 : decode cX1_isLike 12 = .ok (.getfield 22, 3) := by decide +kernel
theorem dX1_isLike_15 : decode cX1_isLike 15 = .ok (.aload_n 1, 1) := by decide +kernel
theorem dX1_isLike_16 : decode cX1_isLike 16 = .ok (.getfield 22, 3) := by decide +kernel
theorem dX1_isLike_19 : decode cX1_isLike 19 = .ok (.if_icmp .ne 21, 3) := by decide +kernel
theorem dX1_isLike_22 : decode cX1_isLike 22 = .ok (.aload_n 0, 1) := by decide +kernel
theorem dX1_isLike_23 : decode cX1_isLike 23 = .ok (.getfield 12, 3) := by decide +kernel
theorem dX1_isLike_26 : decode cX1_isLike 26 = .ok (.aload_n 1, 1) := by decide +kernel
theorem dX1_isLike_27 : decode cX1_isLike 27 = .ok (.getfield 12, 3) := by decide +kernel
theorem dX1_isLike_30 : decode cX1_isLike 30 = .ok (.invokevirtual 29, 3) := by decide +kernel
theorem dX1_isLike_33 : decode cX1_isLike 33 = .ok (.ifCond .eq 7, 3) := by decide +kernel
theorem dX1_isLike_36 : decode cX1_isLike 36 = .ok (.iconst 1, 1) := by decide +kernel
theorem dX1_isLike_37 : decode cX1_isLike 37 = .ok (.goto 4, 3) := by decide +kernel
theorem dX1_isLike_40 : decode cX1_isLike 40 = .ok (.iconst 0, 1) := by decide +kernel
theorem dX1_isLike_41 : decode cX1_isLike 41 = .ok (.ireturn, 1) := by decide +kernel
theorem dX1_hasInWindow_0 : decode cX1_hasInWindow 0 = .ok (.lload_n 1, 1) := by decide +kernel
theorem dX1_hasInWindow_1 : decode cX1_hasInWindow 1 = .ok (.aload_n 0, 1) := by decide +kernel
theorem dX1_hasInWindow_2 : decode cX1_hasInWindow 2 = .ok (.getfield 22, 3) := by decide +kernel
theorem dX1_hasInWindow_5 : decode cX1_hasInWindow 5 = .ok (.ineg, 1) := by decide +kernel
theorem dX1_hasInWindow_6 : decode cX1_hasInWindow 6 = .ok (.i2l, 1) := by decide +kernel
theorem dX1_hasInWindow_7 : decode cX1_hasInWindow 7 = .ok (.lcmp, 1) := by decide +kernel
theorem dX1_hasInWindow_8 : decode cX1_hasInWindow 8 = .ok (.ifCond .lt 38, 3) := by decide +kernel
theorem dX1_hasInWindow_11 : decode cX1_hasInWindow 11 = .ok (.lload_n 1, 1) := by decide +kernel
theorem dX1_hasInWindow_12 : decode cX1_hasInWindow 12 = .ok (.aload_n 0, 1) := by decide +kernel
theorem dX1_hasInWindow_13 : decode cX1_hasInWindow 13 = .ok (.getfield 22, 3) := by decide +kernel
theorem dX1_hasInWindow_16 : decode cX1_hasInWindow 16 = .ok (.i2l, 1) := by decide +kernel
theorem dX1_hasInWindow_17 : decode cX1_hasInWindow 17 = .ok (.lcmp, 1) := by decide +kernel
theorem dX1_hasInWindow_18 : decode cX1_hasInWindow 18 = .ok (.ifCond .gt 28, 3) := by decide +kernel
theorem dX1_hasInWindow_21 : decode cX1_hasInWindow 21 = .ok (.lload_n 3, 1) := by decide +kernel
theorem dX1_hasInWindow_22 : decode cX1_hasInWindow 22 = .ok (.aload_n 0, 1) := by decide +kernel
theorem dX1_hasInWindow_23 : decode cX1_hasInWindow 23 = .ok (.getfield 22, 3) := by decide +kernel
theorem dX1_hasInWindow_26 : decode cX1_hasInWindow 26 = .ok (.ineg, 1) := by decide +kernel
theorem dX1_hasInWindow_27 : decode cX1_hasInWindow 27 = .ok (.i2l, 1) := by decide +kernel
theorem dX1_hasInWindow_28 : decode cX1_hasInWindow 28 = .ok (.lcmp, 1) := by decide +kernel
theorem dX1_hasInWindow_29 : decode cX1_hasInWindow 29 = .ok (.ifCond .lt 17, 3) := by decide +kernel
theorem dX1_hasInWindow_32 : decode cX1_hasInWindow 32 = .ok (.lload_n 3, 1) := by decide +kernel
theorem dX1_hasInWindow_33 : decode cX1_hasInWindow 33 = .ok (.aload_n 0, 1) := by decide +kernel
theorem dX1_hasInWindow_34 : decode cX1_hasInWindow 34 = .ok (.getfield 22, 3) := by decide +kernel
theorem dX1_hasInWindow_37 : decode cX1_hasInWindow 37 = .ok (.i2l, 1) := by decide +kernel
theorem dX1_hasInWindow_38 : decode cX1_hasInWindow 38 = .ok (.lcmp, 1) := by decide +kernel
theorem dX1_hasInWindow_39 : decode cX1_hasInWindow 39 = .ok (.ifCond .gt 7, 3) := by decide +kernel
theorem dX1_hasInWindow_42 : decode cX1_hasInWindow 42 = .ok (.iconst 1, 1) := by decide +kernel
theorem dX1_hasInWindow_43 : decode cX1_hasInWindow 43 = .ok (.goto 4, 3) := by decide +kernel
theorem dX1_hasInWindow_46 : decode cX1_hasInWindow 46 = .ok (.iconst 0, 1) := by decide +kernel
theorem dX1_hasInWindow_47 : decode cX1_hasInWindow 47 = .ok (.ireturn, 1) := by decide +kernel
theorem dX1_isAnswer_0 : decode cX1_isAnswer 0 = .ok (.aload_n 0, 1) := by decide +kernel
theorem dX1_isAnswer_1 : decode cX1_isAnswer 1 = .ok (.lload_n 1, 1) := by decide +kernel
theorem dX1_isAnswer_2 : decode cX1_isAnswer 2 = .ok (.lload_n 3, 1) := by decide +kernel
theorem dX1_isAnswer_3 : decode cX1_isAnswer 3 = .ok (.invokevirtual 33, 3) := by decide +kernel
theorem dX1_isAnswer_6 : decode cX1_isAnswer 6 = .ok (.ifCond .eq 25, 3) := by decide +kernel
theorem dX1_isAnswer_9 : decode cX1_isAnswer 9 = .ok (.aload_n 0, 1) := by decide +kernel
theorem dX1_isAnswer_10 : decode cX1_isAnswer 10 = .ok (.getfield 12, 3) := by decide +kernel
theorem dX1_isAnswer_13 : decode cX1_isAnswer 13 = .ok (.lload_n 1, 1) := by decide +kernel
theorem dX1_isAnswer_14 : decode cX1_isAnswer 14 = .ok (.lload_n 3, 1) := by decide +kernel
theorem dX1_isAnswer_15 : decode cX1_isAnswer 15 = .ok (.invokevirtual 37, 3) := by decide +kernel
theorem dX1_isAnswer_18 : decode cX1_isAnswer 18 = .ok (.aload_n 0, 1) := by decide +kernel
theorem dX1_isAnswer_19 : decode cX1_isAnswer 19 = .ok (.getfield 18, 3) := by decide +kernel
theorem dX1_isAnswer_22 : decode cX1_isAnswer 22 = .ok (.i2l, 1) := by decide +kernel
theorem dX1_isAnswer_23 : decode cX1_isAnswer 23 = .ok (.lcmp, 1) := by decide +kernel
theorem dX1_isAnswer_24 : decode cX1_isAnswer 24 = .ok (.ifCond .ne 7, 3) := by decide +kernel
theorem dX1_isAnswer_27 : decode cX1_isAnswer 27 = .ok (.iconst 1, 1) := by decide +kernel
theorem dX1_isAnswer_28 : decode cX1_isAnswer 28 = .ok (.goto 4, 3) := by decide +kernel
theorem dX1_isAnswer_31 : decode cX1_isAnswer 31 = .ok (.iconst 0, 1) := by decide +kernel
theorem dX1_isAnswer_32 : decode cX1_isAnswer 32 = .ok (.ireturn, 1) := by decide +kernel
theorem dX1_twos_0 : decode cX1_twos 0 = .ok (.ldc2_w 41, 3) := by decide +kernel
theorem dX1_twos_3 : decode cX1_twos 3 = .ok (.aload_n 0, 1) := by decide +kernel
theorem dX1_twos_4 : decode cX1_twos 4 = .ok (.getfield 22, 3) := by decide +kernel
theorem dX1_twos_7 : decode cX1_twos 7 = .ok (.i2l, 1) := by decide +kernel
theorem dX1_twos_8 : decode cX1_twos 8 = .ok (.lmul, 1) := by decide +kernel
theorem dX1_twos_9 : decode cX1_twos 9 = .ok (.lconst 1, 1) := by decide +kernel
theorem dX1_twos_10 : decode cX1_twos 10 = .ok (.ladd, 1) := by decide +kernel
theorem dX1_twos_11 : decode cX1_twos 11 = .ok (.lstore_n 1, 1) := by decide +kernel
theorem dX1_twos_12 : decode cX1_twos 12 = .ok (.lload_n 1, 1) := by decide +kernel
theorem dX1_twos_13 : decode cX1_twos 13 = .ok (.lload_n 1, 1) := by decide +kernel
theorem dX1_twos_14 : decode cX1_twos 14 = .ok (.lmul, 1) := by decide +kernel
theorem dX1_twos_15 : decode cX1_twos 15 = .ok (.lreturn, 1) := by decide +kernel
theorem dX1_howManyAnswers_0 : decode cX1_howManyAnswers 0 = .ok (.iconst 0, 1) := by decide +kernel
theorem dX1_howManyAnswers_1 : decode cX1_howManyAnswers 1 = .ok (.istore_n 1, 1) := by decide +kernel
theorem dX1_howManyAnswers_2 : decode cX1_howManyAnswers 2 = .ok (.aload_n 0, 1) := by decide +kernel
theorem dX1_howManyAnswers_3 : decode cX1_howManyAnswers 3 = .ok (.getfield 22, 3) := by decide +kernel
theorem dX1_howManyAnswers_6 : decode cX1_howManyAnswers 6 = .ok (.ineg, 1) := by decide +kernel
theorem dX1_howManyAnswers_7 : decode cX1_howManyAnswers 7 = .ok (.istore_n 2, 1) := by decide +kernel
theorem dX1_howManyAnswers_8 : decode cX1_howManyAnswers 8 = .ok (.iload_n 2, 1) := by decide +kernel
theorem dX1_howManyAnswers_9 : decode cX1_howManyAnswers 9 = .ok (.aload_n 0, 1) := by decide +kernel
theorem dX1_howManyAnswers_10 : decode cX1_howManyAnswers 10 = .ok (.getfield 22, 3) := by decide +kernel
theorem dX1_howManyAnswers_13 : decode cX1_howManyAnswers 13 = .ok (.if_icmp .gt 52, 3) := by decide +kernel
theorem dX1_howManyAnswers_16 : decode cX1_howManyAnswers 16 = .ok (.aload_n 0, 1) := by decide +kernel
theorem dX1_howManyAnswers_17 : decode cX1_howManyAnswers 17 = .ok (.getfield 22, 3) := by decide +kernel
theorem dX1_howManyAnswers_20 : decode cX1_howManyAnswers 20 = .ok (.ineg, 1) := by decide +kernel
theorem dX1_howManyAnswers_21 : decode cX1_howManyAnswers 21 = .ok (.istore_n 3, 1) := by decide +kernel
theorem dX1_howManyAnswers_22 : decode cX1_howManyAnswers 22 = .ok (.iload_n 3, 1) := by decide +kernel
theorem dX1_howManyAnswers_23 : decode cX1_howManyAnswers 23 = .ok (.aload_n 0, 1) := by decide +kernel
theorem dX1_howManyAnswers_24 : decode cX1_howManyAnswers 24 = .ok (.getfield 22, 3) := by decide +kernel
theorem dX1_howManyAnswers_27 : decode cX1_howManyAnswers 27 = .ok (.if_icmp .gt 32, 3) := by decide +kernel
theorem dX1_howManyAnswers_30 : decode cX1_howManyAnswers 30 = .ok (.aload_n 0, 1) := by decide +kernel
theorem dX1_howManyAnswers_31 : decode cX1_howManyAnswers 31 = .ok (.getfield 12, 3) := by decide +kernel
theorem dX1_howManyAnswers_34 : decode cX1_howManyAnswers 34 = .ok (.iload_n 2, 1) := by decide +kernel
theorem dX1_howManyAnswers_35 : decode cX1_howManyAnswers 35 = .ok (.i2l, 1) := by decide +kernel
theorem dX1_howManyAnswers_36 : decode cX1_howManyAnswers 36 = .ok (.iload_n 3, 1) := by decide +kernel
theorem dX1_howManyAnswers_37 : decode cX1_howManyAnswers 37 = .ok (.i2l, 1) := by decide +kernel
theorem dX1_howManyAnswers_38 : decode cX1_howManyAnswers 38 = .ok (.invokevirtual 37, 3) := by decide +kernel
theorem dX1_howManyAnswers_41 : decode cX1_howManyAnswers 41 = .ok (.aload_n 0, 1) := by decide +kernel
theorem dX1_howManyAnswers_42 : decode cX1_howManyAnswers 42 = .ok (.getfield 18, 3) := by decide +kernel
theorem dX1_howManyAnswers_45 : decode cX1_howManyAnswers 45 = .ok (.i2l, 1) := by decide +kernel
theorem dX1_howManyAnswers_46 : decode cX1_howManyAnswers 46 = .ok (.lcmp, 1) := by decide +kernel
theorem dX1_howManyAnswers_47 : decode cX1_howManyAnswers 47 = .ok (.ifCond .ne 6, 3) := by decide +kernel
theorem dX1_howManyAnswers_50 : decode cX1_howManyAnswers 50 = .ok (.iinc 1 1, 3) := by decide +kernel
theorem dX1_howManyAnswers_53 : decode cX1_howManyAnswers 53 = .ok (.iinc 3 1, 3) := by decide +kernel
theorem dX1_howManyAnswers_56 : decode cX1_howManyAnswers 56 = .ok (.goto (-34), 3) := by decide +kernel
theorem dX1_howManyAnswers_59 : decode cX1_howManyAnswers 59 = .ok (.iinc 2 1, 3) := by decide +kernel
theorem dX1_howManyAnswers_62 : decode cX1_howManyAnswers 62 = .ok (.goto (-54), 3) := by decide +kernel
theorem dX1_howManyAnswers_65 : decode cX1_howManyAnswers 65 = .ok (.iload_n 1, 1) := by decide +kernel
theorem dX1_howManyAnswers_66 : decode cX1_howManyAnswers 66 = .ok (.ireturn, 1) := by decide +kernel
theorem dX1_valuesAboveM_0 : decode cX1_valuesAboveM 0 = .ok (.lconst 0, 1) := by decide +kernel
theorem dX1_valuesAboveM_1 : decode cX1_valuesAboveM 1 = .ok (.lstore_n 1, 1) := by decide +kernel
theorem dX1_valuesAboveM_2 : decode cX1_valuesAboveM 2 = .ok (.aload_n 0, 1) := by decide +kernel
theorem dX1_valuesAboveM_3 : decode cX1_valuesAboveM 3 = .ok (.getfield 22, 3) := by decide +kernel
theorem dX1_valuesAboveM_6 : decode cX1_valuesAboveM 6 = .ok (.ineg, 1) := by decide +kernel
theorem dX1_valuesAboveM_7 : decode cX1_valuesAboveM 7 = .ok (.istore_n 3, 1) := by decide +kernel
theorem dX1_valuesAboveM_8 : decode cX1_valuesAboveM 8 = .ok (.iload_n 3, 1) := by decide +kernel
theorem dX1_valuesAboveM_9 : decode cX1_valuesAboveM 9 = .ok (.aload_n 0, 1) := by decide +kernel
theorem dX1_valuesAboveM_10 : decode cX1_valuesAboveM 10 = .ok (.getfield 22, 3) := by decide +kernel
theorem dX1_valuesAboveM_13 : decode cX1_valuesAboveM 13 = .ok (.if_icmp .gt 56, 3) := by decide +kernel
theorem dX1_valuesAboveM_16 : decode cX1_valuesAboveM 16 = .ok (.aload_n 0, 1) := by decide +kernel
theorem dX1_valuesAboveM_17 : decode cX1_valuesAboveM 17 = .ok (.getfield 22, 3) := by decide +kernel
theorem dX1_valuesAboveM_20 : decode cX1_valuesAboveM 20 = .ok (.ineg, 1) := by decide +kernel
theorem dX1_valuesAboveM_21 : decode cX1_valuesAboveM 21 = .ok (.istore 4, 2) := by decide +kernel
theorem dX1_valuesAboveM_23 : decode cX1_valuesAboveM 23 = .ok (.iload 4, 2) := by decide +kernel
theorem dX1_valuesAboveM_25 : decode cX1_valuesAboveM 25 = .ok (.aload_n 0, 1) := by decide +kernel
theorem dX1_valuesAboveM_26 : decode cX1_valuesAboveM 26 = .ok (.getfield 22, 3) := by decide +kernel
theorem dX1_valuesAboveM_29 : decode cX1_valuesAboveM 29 = .ok (.if_icmp .gt 34, 3) := by decide +kernel
theorem dX1_valuesAboveM_32 : decode cX1_valuesAboveM 32 = .ok (.aload_n 0, 1) := by decide +kernel
theorem dX1_valuesAboveM_33 : decode cX1_valuesAboveM 33 = .ok (.getfield 12, 3) := by decide +kernel
theorem dX1_valuesAboveM_36 : decode cX1_valuesAboveM 36 = .ok (.iload_n 3, 1) := by decide +kernel
theorem dX1_valuesAboveM_37 : decode cX1_valuesAboveM 37 = .ok (.i2l, 1) := by decide +kernel
theorem dX1_valuesAboveM_38 : decode cX1_valuesAboveM 38 = .ok (.iload 4, 2) := by decide +kernel
theorem dX1_valuesAboveM_40 : decode cX1_valuesAboveM 40 = .ok (.i2l, 1) := by decide +kernel
theorem dX1_valuesAboveM_41 : decode cX1_valuesAboveM 41 = .ok (.invokevirtual 37, 3) := by decide +kernel
theorem dX1_valuesAboveM_44 : decode cX1_valuesAboveM 44 = .ok (.aload_n 0, 1) := by decide +kernel
theorem dX1_valuesAboveM_45 : decode cX1_valuesAboveM 45 = .ok (.getfield 18, 3) := by decide +kernel
theorem dX1_valuesAboveM_48 : decode cX1_valuesAboveM 48 = .ok (.i2l, 1) := by decide +kernel
theorem dX1_valuesAboveM_49 : decode cX1_valuesAboveM 49 = .ok (.lcmp, 1) := by decide +kernel
theorem dX1_valuesAboveM_50 : decode cX1_valuesAboveM 50 = .ok (.ifCond .le 7, 3) := by decide +kernel
theorem dX1_valuesAboveM_53 : decode cX1_valuesAboveM 53 = .ok (.lload_n 1, 1) := by decide +kernel
theorem dX1_valuesAboveM_54 : decode cX1_valuesAboveM 54 = .ok (.lconst 1, 1) := by decide +kernel
theorem dX1_valuesAboveM_55 : decode cX1_valuesAboveM 55 = .ok (.ladd, 1) := by decide +kernel
theorem dX1_valuesAboveM_56 : decode cX1_valuesAboveM 56 = .ok (.lstore_n 1, 1) := by decide +kernel
theorem dX1_valuesAboveM_57 : decode cX1_valuesAboveM 57 = .ok (.iinc 4 1, 3) := by decide +kernel
theorem dX1_valuesAboveM_60 : decode cX1_valuesAboveM 60 = .ok (.goto (-37), 3) := by decide +kernel
theorem dX1_valuesAboveM_63 : decode cX1_valuesAboveM 63 = .ok (.iinc 3 1, 3) := by decide +kernel
theorem dX1_valuesAboveM_66 : decode cX1_valuesAboveM 66 = .ok (.goto (-58), 3) := by decide +kernel
theorem dX1_valuesAboveM_69 : decode cX1_valuesAboveM 69 = .ok (.lload_n 1, 1) := by decide +kernel
theorem dX1_valuesAboveM_70 : decode cX1_valuesAboveM 70 = .ok (.lreturn, 1) := by decide +kernel
theorem dX1_valuesTogether_0 : decode cX1_valuesTogether 0 = .ok (.lconst 0, 1) := by decide +kernel
theorem dX1_valuesTogether_1 : decode cX1_valuesTogether 1 = .ok (.lstore_n 1, 1) := by decide +kernel
theorem dX1_valuesTogether_2 : decode cX1_valuesTogether 2 = .ok (.aload_n 0, 1) := by decide +kernel
theorem dX1_valuesTogether_3 : decode cX1_valuesTogether 3 = .ok (.getfield 22, 3) := by decide +kernel
theorem dX1_valuesTogether_6 : decode cX1_valuesTogether 6 = .ok (.ineg, 1) := by decide +kernel
theorem dX1_valuesTogether_7 : decode cX1_valuesTogether 7 = .ok (.istore_n 3, 1) := by decide +kernel
theorem dX1_valuesTogether_8 : decode cX1_valuesTogether 8 = .ok (.iload_n 3, 1) := by decide +kernel
theorem dX1_valuesTogether_9 : decode cX1_valuesTogether 9 = .ok (.aload_n 0, 1) := by decide +kernel
theorem dX1_valuesTogether_10 : decode cX1_valuesTogether 10 = .ok (.getfield 22, 3) := by decide +kernel
theorem dX1_valuesTogether_13 : decode cX1_valuesTogether 13 = .ok (.if_icmp .gt 46, 3) := by decide +kernel
theorem dX1_valuesTogether_16 : decode cX1_valuesTogether 16 = .ok (.aload_n 0, 1) := by decide +kernel
theorem dX1_valuesTogether_17 : decode cX1_valuesTogether 17 = .ok (.getfield 22, 3) := by decide +kernel
theorem dX1_valuesTogether_20 : decode cX1_valuesTogether 20 = .ok (.ineg, 1) := by decide +kernel
theorem dX1_valuesTogether_21 : decode cX1_valuesTogether 21 = .ok (.istore 4, 2) := by decide +kernel
theorem dX1_valuesTogether_23 : decode cX1_valuesTogether 23 = .ok (.iload 4, 2) := by decide +kernel
theorem dX1_valuesTogether_25 : decode cX1_valuesTogether 25 = .ok (.aload_n 0, 1) := by decide +kernel
theorem dX1_valuesTogether_26 : decode cX1_valuesTogether 26 = .ok (.getfield 22, 3) := by decide +kernel
theorem dX1_valuesTogether_29 : decode cX1_valuesTogether 29 = .ok (.if_icmp .gt 24, 3) := by decide +kernel
theorem dX1_valuesTogether_32 : decode cX1_valuesTogether 32 = .ok (.lload_n 1, 1) := by decide +kernel
theorem dX1_valuesTogether_33 : decode cX1_valuesTogether 33 = .ok (.aload_n 0, 1) := by decide +kernel
theorem dX1_valuesTogether_34 : decode cX1_valuesTogether 34 = .ok (.getfield 12, 3) := by decide +kernel
theorem dX1_valuesTogether_37 : decode cX1_valuesTogether 37 = .ok (.iload_n 3, 1) := by decide +kernel
theorem dX1_valuesTogether_38 : decode cX1_valuesTogether 38 = .ok (.i2l, 1) := by decide +kernel
theorem dX1_valuesTogether_39 : decode cX1_valuesTogether 39 = .ok (.iload 4, 2) := by decide +kernel
theorem dX1_valuesTogether_41 : decode cX1_valuesTogether 41 = .ok (.i2l, 1) := by decide +kernel
theorem dX1_valuesTogether_42 : decode cX1_valuesTogether 42 = .ok (.invokevirtual 37, 3) := by decide +kernel
theorem dX1_valuesTogether_45 : decode cX1_valuesTogether 45 = .ok (.ladd, 1) := by decide +kernel
theorem dX1_valuesTogether_46 : decode cX1_valuesTogether 46 = .ok (.lstore_n 1, 1) := by decide +kernel
theorem dX1_valuesTogether_47 : decode cX1_valuesTogether 47 = .ok (.iinc 4 1, 3) := by decide +kernel
theorem dX1_valuesTogether_50 : decode cX1_valuesTogether 50 = .ok (.goto (-27), 3) := by decide +kernel
theorem dX1_valuesTogether_53 : decode cX1_valuesTogether 53 = .ok (.iinc 3 1, 3) := by decide +kernel
theorem dX1_valuesTogether_56 : decode cX1_valuesTogether 56 = .ok (.goto (-48), 3) := by decide +kernel
theorem dX1_valuesTogether_59 : decode cX1_valuesTogether 59 = .ok (.lload_n 1, 1) := by decide +kernel
theorem dX1_valuesTogether_60 : decode cX1_valuesTogether 60 = .ok (.lreturn, 1) := by decide +kernel
theorem dX1_isBarredBy_0 : decode cX1_isBarredBy 0 = .ok (.iload_n 1, 1) := by decide +kernel
theorem dX1_isBarredBy_1 : decode cX1_isBarredBy 1 = .ok (.iconst 2, 1) := by decide +kernel
theorem dX1_isBarredBy_2 : decode cX1_isBarredBy 2 = .ok (.if_icmp .ge 5, 3) := by decide +kernel
theorem dX1_isBarredBy_5 : decode cX1_isBarredBy 5 = .ok (.iconst 0, 1) := by decide +kernel
theorem dX1_isBarredBy_6 : decode cX1_isBarredBy 6 = .ok (.ireturn, 1) := by decide +kernel
theorem dX1_isBarredBy_7 : decode cX1_isBarredBy 7 = .ok (.aload_n 0, 1) := by decide +kernel
theorem dX1_isBarredBy_8 : decode cX1_isBarredBy 8 = .ok (.getfield 12, 3) := by decide +kernel
theorem dX1_isBarredBy_11 : decode cX1_isBarredBy 11 = .ok (.iload_n 1, 1) := by decide +kernel
theorem dX1_isBarredBy_12 : decode cX1_isBarredBy 12 = .ok (.invokevirtual 43, 3) := by decide +kernel
theorem dX1_isBarredBy_15 : decode cX1_isBarredBy 15 = .ok (.aload_n 0, 1) := by decide +kernel
theorem dX1_isBarredBy_16 : decode cX1_isBarredBy 16 = .ok (.getfield 18, 3) := by decide +kernel
theorem dX1_isBarredBy_19 : decode cX1_isBarredBy 19 = .ok (.iload_n 1, 1) := by decide +kernel
theorem dX1_isBarredBy_20 : decode cX1_isBarredBy 20 = .ok (.invokestatic 47, 3) := by decide +kernel
theorem dX1_isBarredBy_23 : decode cX1_isBarredBy 23 = .ok (.ishr, 1) := by decide +kernel
theorem dX1_isBarredBy_24 : decode cX1_isBarredBy 24 = .ok (.iconst 1, 1) := by decide +kernel
theorem dX1_isBarredBy_25 : decode cX1_isBarredBy 25 = .ok (.iand, 1) := by decide +kernel
theorem dX1_isBarredBy_26 : decode cX1_isBarredBy 26 = .ok (.ifCond .ne 7, 3) := by decide +kernel
theorem dX1_isBarredBy_29 : decode cX1_isBarredBy 29 = .ok (.iconst 1, 1) := by decide +kernel
theorem dX1_isBarredBy_30 : decode cX1_isBarredBy 30 = .ok (.goto 4, 3) := by decide +kernel
theorem dX1_isBarredBy_33 : decode cX1_isBarredBy 33 = .ok (.iconst 0, 1) := by decide +kernel
theorem dX1_isBarredBy_34 : decode cX1_isBarredBy 34 = .ok (.ireturn, 1) := by decide +kernel
theorem dX1_firstBar_0 : decode cX1_firstBar 0 = .ok (.iconst 0, 1) := by decide +kernel
theorem dX1_firstBar_1 : decode cX1_firstBar 1 = .ok (.istore_n 1, 1) := by decide +kernel
theorem dX1_firstBar_2 : decode cX1_firstBar 2 = .ok (.iload_n 1, 1) := by decide +kernel
theorem dX1_firstBar_3 : decode cX1_firstBar 3 = .ok (.getstatic 53, 3) := by decide +kernel
theorem dX1_firstBar_6 : decode cX1_firstBar 6 = .ok (.arraylength, 1) := by decide +kernel
theorem dX1_firstBar_7 : decode cX1_firstBar 7 = .ok (.if_icmp .ge 27, 3) := by decide +kernel
theorem dX1_firstBar_10 : decode cX1_firstBar 10 = .ok (.aload_n 0, 1) := by decide +kernel
theorem dX1_firstBar_11 : decode cX1_firstBar 11 = .ok (.getstatic 53, 3) := by decide +kernel
theorem dX1_firstBar_14 : decode cX1_firstBar 14 = .ok (.iload_n 1, 1) := by decide +kernel
theorem dX1_firstBar_15 : decode cX1_firstBar 15 = .ok (.iaload, 1) := by decide +kernel
theorem dX1_firstBar_16 : decode cX1_firstBar 16 = .ok (.invokevirtual 57, 3) := by decide +kernel
theorem dX1_firstBar_19 : decode cX1_firstBar 19 = .ok (.ifCond .eq 9, 3) := by decide +kernel
theorem dX1_firstBar_22 : decode cX1_firstBar 22 = .ok (.getstatic 53, 3) := by decide +kernel
theorem dX1_firstBar_25 : decode cX1_firstBar 25 = .ok (.iload_n 1, 1) := by decide +kernel
theorem dX1_firstBar_26 : decode cX1_firstBar 26 = .ok (.iaload, 1) := by decide +kernel
theorem dX1_firstBar_27 : decode cX1_firstBar 27 = .ok (.ireturn, 1) := by decide +kernel
theorem dX1_firstBar_28 : decode cX1_firstBar 28 = .ok (.iinc 1 1, 3) := by decide +kernel
theorem dX1_firstBar_31 : decode cX1_firstBar 31 = .ok (.goto (-29), 3) := by decide +kernel
theorem dX1_firstBar_34 : decode cX1_firstBar 34 = .ok (.bipush (-5), 2) := by decide +kernel
theorem dX1_firstBar_36 : decode cX1_firstBar 36 = .ok (.ireturn, 1) := by decide +kernel
theorem dX1_addToM_0 : decode cX1_addToM 0 = .ok (.aload_n 0, 1) := by decide +kernel
theorem dX1_addToM_1 : decode cX1_addToM 1 = .ok (.getfield 18, 3) := by decide +kernel
theorem dX1_addToM_4 : decode cX1_addToM 4 = .ok (.iload_n 1, 1) := by decide +kernel
theorem dX1_addToM_5 : decode cX1_addToM 5 = .ok (.iadd, 1) := by decide +kernel
theorem dX1_addToM_6 : decode cX1_addToM 6 = .ok (.sipush (-9999), 3) := by decide +kernel
theorem dX1_addToM_9 : decode cX1_addToM 9 = .ok (.sipush 9999, 3) := by decide +kernel
theorem dX1_addToM_12 : decode cX1_addToM 12 = .ok (.invokestatic 61, 3) := by decide +kernel
theorem dX1_addToM_15 : decode cX1_addToM 15 = .ok (.ifCond .eq 13, 3) := by decide +kernel
theorem dX1_addToM_18 : decode cX1_addToM 18 = .ok (.aload_n 0, 1) := by decide +kernel
theorem dX1_addToM_19 : decode cX1_addToM 19 = .ok (.dup, 1) := by decide +kernel
theorem dX1_addToM_20 : decode cX1_addToM 20 = .ok (.getfield 18, 3) := by decide +kernel
theorem dX1_addToM_23 : decode cX1_addToM 23 = .ok (.iload_n 1, 1) := by decide +kernel
theorem dX1_addToM_24 : decode cX1_addToM 24 = .ok (.iadd, 1) := by decide +kernel
theorem dX1_addToM_25 : decode cX1_addToM 25 = .ok (.putfield 18, 3) := by decide +kernel
theorem dX1_addToM_28 : decode cX1_addToM 28 = .ok (.return_, 1) := by decide +kernel
theorem dX2_init_0 : decode cX2_init 0 = .ok (.aload_n 0, 1) := by decide +kernel
theorem dX2_init_1 : decode cX2_init 1 = .ok (.invokespecial 3, 3) := by decide +kernel
theorem dX2_init_4 : decode cX2_init 4 = .ok (.aload_n 0, 1) := by decide +kernel
theorem dX2_init_5 : decode cX2_init 5 = .ok (.iconst 3, 1) := by decide +kernel
theorem dX2_init_6 : decode cX2_init 6 = .ok (.putfield 9, 3) := by decide +kernel
theorem dX2_init_9 : decode cX2_init 9 = .ok (.aload_n 0, 1) := by decide +kernel
theorem dX2_init_10 : decode cX2_init 10 = .ok (.iconst 5, 1) := by decide +kernel
theorem dX2_init_11 : decode cX2_init 11 = .ok (.newarray .int, 2) := by decide +kernel
theorem dX2_init_13 : decode cX2_init 13 = .ok (.putfield 15, 3) := by decide +kernel
theorem dX2_init_16 : decode cX2_init 16 = .ok (.aload_n 0, 1) := by decide +kernel
theorem dX2_init_17 : decode cX2_init 17 = .ok (.iconst 5, 1) := by decide +kernel
theorem dX2_init_18 : decode cX2_init 18 = .ok (.newarray .long, 2) := by decide +kernel
theorem dX2_init_20 : decode cX2_init 20 = .ok (.putfield 19, 3) := by decide +kernel
theorem dX2_init_23 : decode cX2_init 23 = .ok (.aload_n 0, 1) := by decide +kernel
theorem dX2_init_24 : decode cX2_init 24 = .ok (.iconst 5, 1) := by decide +kernel
theorem dX2_init_25 : decode cX2_init 25 = .ok (.newarray .long, 2) := by decide +kernel
theorem dX2_init_27 : decode cX2_init 27 = .ok (.putfield 23, 3) := by decide +kernel
theorem dX2_init_30 : decode cX2_init 30 = .ok (.return_, 1) := by decide +kernel
theorem dX2_isMove_0 : decode cX2_isMove 0 = .ok (.iload_n 0, 1) := by decide +kernel
theorem dX2_isMove_1 : decode cX2_isMove 1 = .ok (.ifCond .lt 12, 3) := by decide +kernel
theorem dX2_isMove_4 : decode cX2_isMove 4 = .ok (.iload_n 0, 1) := by decide +kernel
theorem dX2_isMove_5 : decode cX2_isMove 5 = .ok (.iconst 5, 1) := by decide +kernel
theorem dX2_isMove_6 : decode cX2_isMove 6 = .ok (.if_icmp .ge 7, 3) := by decide +kernel
theorem dX2_isMove_9 : decode cX2_isMove 9 = .ok (.iconst 1, 1) := by decide +kernel
theorem dX2_isMove_10 : decode cX2_isMove 10 = .ok (.goto 4, 3) := by decide +kernel
theorem dX2_isMove_13 : decode cX2_isMove 13 = .ok (.iconst 0, 1) := by decide +kernel
theorem dX2_isMove_14 : decode cX2_isMove 14 = .ok (.ireturn, 1) := by decide +kernel
theorem dX2_clear_0 : decode cX2_clear 0 = .ok (.aload_n 0, 1) := by decide +kernel
theorem dX2_clear_1 : decode cX2_clear 1 = .ok (.iload_n 1, 1) := by decide +kernel
theorem dX2_clear_2 : decode cX2_clear 2 = .ok (.putfield 9, 3) := by decide +kernel
theorem dX2_clear_5 : decode cX2_clear 5 = .ok (.aload_n 0, 1) := by decide +kernel
theorem dX2_clear_6 : decode cX2_clear 6 = .ok (.getfield 15, 3) := by decide +kernel
theorem dX2_clear_9 : decode cX2_clear 9 = .ok (.iconst 0, 1) := by decide +kernel
theorem dX2_clear_10 : decode cX2_clear 10 = .ok (.invokestatic 26, 3) := by decide +kernel
theorem dX2_clear_13 : decode cX2_clear 13 = .ok (.return_, 1) := by decide +kernel
theorem dX2_copy_0 : decode cX2_copy 0 = .ok (.aload_n 0, 1) := by decide +kernel
theorem dX2_copy_1 : decode cX2_copy 1 = .ok (.aload_n 1, 1) := by decide +kernel
theorem dX2_copy_2 : decode cX2_copy 2 = .ok (.getfield 9, 3) := by decide +kernel
theorem dX2_copy_5 : decode cX2_copy 5 = .ok (.putfield 9, 3) := by decide +kernel
theorem dX2_copy_8 : decode cX2_copy 8 = .ok (.aload_n 1, 1) := by decide +kernel
theorem dX2_copy_9 : decode cX2_copy 9 = .ok (.getfield 15, 3) := by decide +kernel
theorem dX2_copy_12 : decode cX2_copy 12 = .ok (.iconst 0, 1) := by decide +kernel
theorem dX2_copy_13 : decode cX2_copy 13 = .ok (.aload_n 0, 1) := by decide +kernel
theorem dX2_copy_14 : decode cX2_copy 14 = .ok (.getfield 15, 3) := by decide +kernel
theorem dX2_copy_17 : decode cX2_copy 17 = .ok (.iconst 0, 1) := by decide +kernel
theorem dX2_copy_18 : decode cX2_copy 18 = .ok (.aload_n 0, 1) := by decide +kernel
theorem dX2_copy_19 : decode cX2_copy 19 = .ok (.getfield 15, 3) := by decide +kernel
theorem dX2_copy_22 : decode cX2_copy 22 = .ok (.arraylength, 1) := by decide +kernel
theorem dX2_copy_23 : decode cX2_copy 23 = .ok (.invokestatic 32, 3) := by decide +kernel
theorem dX2_copy_26 : decode cX2_copy 26 = .ok (.return_, 1) := by decide +kernel
theorem dX2_isLike_0 : decode cX2_isLike 0 = .ok (.iconst 0, 1) := by decide +kernel
theorem dX2_isLike_1 : decode cX2_isLike 1 = .ok (.istore_n 2, 1) := by decide +kernel
theorem dX2_isLike_2 : decode cX2_isLike 2 = .ok (.iload_n 2, 1) := by decide +kernel
theorem dX2_isLike_3 : decode cX2_isLike 3 = .ok (.aload_n 0, 1) := by decide +kernel
theorem dX2_isLike_4 : decode cX2_isLike 4 = .ok (.getfield 15, 3) := by decide +kernel
theorem dX2_isLike_7 : decode cX2_isLike 7 = .ok (.arraylength, 1) := by decide +kernel
theorem dX2_isLike_8 : decode cX2_isLike 8 = .ok (.if_icmp .ge 26, 3) := by decide +kernel
theorem dX2_isLike_11 : decode cX2_isLike 11 = .ok (.aload_n 0, 1) := by decide +kernel
theorem dX2_isLike_12 : decode cX2_isLike 12 = .ok (.getfield 15, 3) := by decide +kernel
theorem dX2_isLike_15 : decode cX2_isLike 15 = .ok (.iload_n 2, 1) := by decide +kernel
theorem dX2_isLike_16 : decode cX2_isLike 16 = .ok (.iaload, 1) := by decide +kernel
theorem dX2_isLike_17 : decode cX2_isLike 17 = .ok (.aload_n 1, 1) := by decide +kernel
theorem dX2_isLike_18 : decode cX2_isLike 18 = .ok (.getfield 15, 3) := by decide +kernel
theorem dX2_isLike_21 : decode cX2_isLike 21 = .ok (.iload_n 2, 1) := by decide +kernel
theorem dX2_isLike_22 : decode cX2_isLike 22 = .ok (.iaload, 1) := by decide +kernel
theorem dX2_isLike_23 : decode cX2_isLike 23 = .ok (.if_icmp .eq 5, 3) := by decide +kernel
theorem dX2_isLike_26 : decode cX2_isLike 26 = .ok (.iconst 0, 1) := by decide +kernel
theorem dX2_isLike_27 : decode cX2_isLike 27 = .ok (.ireturn, 1) := by decide +kernel
theorem dX2_isLike_28 : decode cX2_isLike 28 = .ok (.iinc 2 1, 3) := by decide +kernel
theorem dX2_isLike_31 : decode cX2_isLike 31 = .ok (.goto (-29), 3) := by decide +kernel
theorem dX2_isLike_34 : decode cX2_isLike 34 = .ok (.aload_n 0, 1) := by decide +kernel
theorem dX2_isLike_35 : decode cX2_isLike 35 = .ok (.getfield 9, 3) := by decide +kernel
theorem dX2_isLike_38 : decode cX2_isLike 38 = .ok (.aload_n 1, 1) := by decide +kernel
theorem dX2_isLike_39 : decode cX2_isLike 39 = .ok (.getfield 9, 3) := by decide +kernel
theorem dX2_isLike_42 : decode cX2_isLike 42 = .ok (.if_icmp .ne 7, 3) := by decide +kernel
theorem dX2_isLike_45 : decode cX2_isLike 45 = .ok (.iconst 1, 1) := by decide +kernel
theorem dX2_isLike_46 : decode cX2_isLike 46 = .ok (.goto 4, 3) := by decide +kernel
theorem dX2_isLike_49 : decode cX2_isLike 49 = .ok (.iconst 0, 1) := by decide +kernel
theorem dX2_isLike_50 : decode cX2_isLike 50 = .ok (.ireturn, 1) := by decide +kernel
theorem dX2_has_0 : decode cX2_has 0 = .ok (.iload_n 1, 1) := by decide +kernel
theorem dX2_has_1 : decode cX2_has 1 = .ok (.ifCond .lt 24, 3) := by decide +kernel
theorem dX2_has_4 : decode cX2_has 4 = .ok (.iload_n 1, 1) := by decide +kernel
theorem dX2_has_5 : decode cX2_has 5 = .ok (.aload_n 0, 1) := by decide +kernel
theorem dX2_has_6 : decode cX2_has 6 = .ok (.getfield 9, 3) := by decide +kernel
theorem dX2_has_9 : decode cX2_has 9 = .ok (.if_icmp .gt 16, 3) := by decide +kernel
theorem dX2_has_12 : decode cX2_has 12 = .ok (.iload_n 1, 1) := by decide +kernel
theorem dX2_has_13 : decode cX2_has 13 = .ok (.aload_n 0, 1) := by decide +kernel
theorem dX2_has_14 : decode cX2_has 14 = .ok (.getfield 15, 3) := by decide +kernel
theorem dX2_has_17 : decode cX2_has 17 = .ok (.arraylength, 1) := by decide +kernel
theorem dX2_has_18 : decode cX2_has 18 = .ok (.if_icmp .ge 7, 3) := by decide +kernel
theorem dX2_has_21 : decode cX2_has 21 = .ok (.iconst 1, 1) := by decide +kernel
theorem dX2_has_22 : decode cX2_has 22 = .ok (.goto 4, 3) := by decide +kernel
theorem dX2_has_25 : decode cX2_has 25 = .ok (.iconst 0, 1) := by decide +kernel
theorem dX2_has_26 : decode cX2_has 26 = .ok (.ireturn, 1) := by decide +kernel
theorem dX2_get_0 : decode cX2_get 0 = .ok (.aload_n 0, 1) := by decide +kernel
theorem dX2_get_1 : decode cX2_get 1 = .ok (.iload_n 1, 1) := by decide +kernel
theorem dX2_get_2 : decode cX2_get 2 = .ok (.invokevirtual 38, 3) := by decide +kernel
theorem dX2_get_5 : decode cX2_get 5 = .ok (.ifCond .eq 12, 3) := by decide +kernel
theorem dX2_get_8 : decode cX2_get 8 = .ok (.aload_n 0, 1) := by decide +kernel
theorem dX2_get_9 : decode cX2_get 9 = .ok (.getfield 15, 3) := by decide +kernel
theorem dX2_get_12 : decode cX2_get 12 = .ok (.iload_n 1, 1) := by decide +kernel
theorem dX2_get_13 : decode cX2_get 13 = .ok (.iaload, 1) := by decide +kernel
theorem dX2_get_14 : decode cX2_get 14 = .ok (.goto 4, 3) := by decide +kernel
theorem dX2_get_17 : decode cX2_get 17 = .ok (.iconst 0, 1) := by decide +kernel
theorem dX2_get_18 : decode cX2_get 18 = .ok (.ireturn, 1) := by decide +kernel
theorem dX2_set_0 : decode cX2_set 0 = .ok (.aload_n 0, 1) := by decide +kernel
theorem dX2_set_1 : decode cX2_set 1 = .ok (.iload_n 1, 1) := by decide +kernel
theorem dX2_set_2 : decode cX2_set 2 = .ok (.invokevirtual 38, 3) := by decide +kernel
theorem dX2_set_5 : decode cX2_set 5 = .ok (.ifCond .eq 10, 3) := by decide +kernel
theorem dX2_set_8 : decode cX2_set 8 = .ok (.aload_n 0, 1) := by decide +kernel
theorem dX2_set_9 : decode cX2_set 9 = .ok (.getfield 15, 3) := by decide +kernel
theorem dX2_set_12 : decode cX2_set 12 = .ok (.iload_n 1, 1) := by decide +kernel
theorem dX2_set_13 : decode cX2_set 13 = .ok (.iload_n 2, 1) := by decide +kernel
theorem dX2_set_14 : decode cX2_set 14 = .ok (.iastore, 1) := by decide +kernel
theorem dX2_set_15 : decode cX2_set 15 = .ok (.return_, 1) := by decide +kernel
theorem dX2_raise_0 : decode cX2_raise 0 = .ok (.aload_n 0, 1) := by decide +kernel
theorem dX2_raise_1 : decode cX2_raise 1 = .ok (.iload_n 1, 1) := by decide +kernel
theorem dX2_raise_2 : decode cX2_raise 2 = .ok (.bipush 99, 2) := by decide +kernel
theorem dX2_raise_4 : decode cX2_raise 4 = .ok (.aload_n 0, 1) := by decide +kernel
theorem dX2_raise_5 : decode cX2_raise 5 = .ok (.iload_n 1, 1) := by decide +kernel
theorem dX2_raise_6 : decode cX2_raise 6 = .ok (.invokevirtual 42, 3) := by decide +kernel
theorem dX2_raise_9 : decode cX2_raise 9 = .ok (.iconst 1, 1) := by decide +kernel
theorem dX2_raise_10 : decode cX2_raise 10 = .ok (.iadd, 1) := by decide +kernel
theorem dX2_raise_11 : decode cX2_raise 11 = .ok (.invokestatic 46, 3) := by decide +kernel
theorem dX2_raise_14 : decode cX2_raise 14 = .ok (.invokevirtual 52, 3) := by decide +kernel
theorem dX2_raise_17 : decode cX2_raise 17 = .ok (.return_, 1) := by decide +kernel
theorem dX2_at_0 : decode cX2_at 0 = .ok (.aload_n 0, 1) := by decide +kernel
theorem dX2_at_1 : decode cX2_at 1 = .ok (.getfield 15, 3) := by decide +kernel
theorem dX2_at_4 : decode cX2_at 4 = .ok (.iconst 0, 1) := by decide +kernel
theorem dX2_at_5 : decode cX2_at 5 = .ok (.iaload, 1) := by decide +kernel
theorem dX2_at_6 : decode cX2_at 6 = .ok (.i2l, 1) := by decide +kernel
theorem dX2_at_7 : decode cX2_at 7 = .ok (.lstore 5, 2) := by decide +kernel
theorem dX2_at_9 : decode cX2_at 9 = .ok (.lconst 1, 1) := by decide +kernel
theorem dX2_at_10 : decode cX2_at 10 = .ok (.lstore 7, 2) := by decide +kernel
theorem dX2_at_12 : decode cX2_at 12 = .ok (.iconst 1, 1) := by decide +kernel
theorem dX2_at_13 : decode cX2_at 13 = .ok (.istore 9, 2) := by decide +kernel
theorem dX2_at_15 : decode cX2_at 15 = .ok (.iload 9, 2) := by decide +kernel
theorem dX2_at_17 : decode cX2_at 17 = .ok (.aload_n 0, 1) := by decide +kernel
theorem dX2_at_18 : decode cX2_at 18 = .ok (.getfield 9, 3) := by decide +kernel
theorem dX2_at_21 : decode cX2_at 21 = .ok (.if_icmp .gt 43, 3) := by decide +kernel
theorem dX2_at_24 : decode cX2_at 24 = .ok (.iload 9, 2) := by decide +kernel
theorem dX2_at_26 : decode cX2_at 26 = .ok (.aload_n 0, 1) := by decide +kernel
theorem dX2_at_27 : decode cX2_at 27 = .ok (.getfield 15, 3) := by decide +kernel
theorem dX2_at_30 : decode cX2_at 30 = .ok (.arraylength, 1) := by decide +kernel
theorem dX2_at_31 : decode cX2_at 31 = .ok (.if_icmp .ge 33, 3) := by decide +kernel
theorem dX2_at_34 : decode cX2_at 34 = .ok (.lload 7, 2) := by decide +kernel
theorem dX2_at_36 : decode cX2_at 36 = .ok (.lload_n 3, 1) := by decide +kernel
theorem dX2_at_37 : decode cX2_at 37 = .ok (.lmul, 1) := by decide +kernel
theorem dX2_at_38 : decode cX2_at 38 = .ok (.lstore 7, 2) := by decide +kernel
theorem dX2_at_40 : decode cX2_at 40 = .ok (.lload 5, 2) := by decide +kernel
theorem dX2_at_42 : decode cX2_at 42 = .ok (.lload_n 1, 1) := by decide +kernel
theorem dX2_at_43 : decode cX2_at 43 = .ok (.lmul, 1) := by decide +kernel
theorem dX2_at_44 : decode cX2_at 44 = .ok (.aload_n 0, 1) := by decide +kernel
theorem dX2_at_45 : decode cX2_at 45 = .ok (.getfield 15, 3) := by decide +kernel
theorem dX2_at_48 : decode cX2_at 48 = .ok (.iload 9, 2) := by decide +kernel
theorem dX2_at_50 : decode cX2_at 50 = .ok (.iaload, 1) := by decide +kernel
theorem dX2_at_51 : decode cX2_at 51 = .ok (.i2l, 1) := by decide +kernel
theorem dX2_at_52 : decode cX2_at 52 = .ok (.lload 7, 2) := by decide +kernel
theorem dX2_at_54 : decode cX2_at 54 = .ok (.lmul, 1) := by decide +kernel
theorem dX2_at_55 : decode cX2_at 55 = .ok (.ladd, 1) := by decide +kernel
theorem dX2_at_56 : decode cX2_at 56 = .ok (.lstore 5, 2) := by decide +kernel
theorem dX2_at_58 : decode cX2_at 58 = .ok (.iinc 9 1, 3) := by decide +kernel
theorem dX2_at_61 : decode cX2_at 61 = .ok (.goto (-46), 3) := by decide +kernel
theorem dX2_at_64 : decode cX2_at 64 = .ok (.lload 5, 2) := by decide +kernel
theorem dX2_at_66 : decode cX2_at 66 = .ok (.lreturn, 1) := by decide +kernel
theorem dX2_remaindersBy_0 : decode cX2_remaindersBy 0 = .ok (.iload_n 1, 1) := by decide +kernel
theorem dX2_remaindersBy_1 : decode cX2_remaindersBy 1 = .ok (.iconst 2, 1) := by decide +kernel
theorem dX2_remaindersBy_2 : decode cX2_remaindersBy 2 = .ok (.if_icmp .ge 5, 3) := by decide +kernel
theorem dX2_remaindersBy_5 : decode cX2_remaindersBy 5 = .ok (.iconst 0, 1) := by decide +kernel
theorem dX2_remaindersBy_6 : decode cX2_remaindersBy 6 = .ok (.ireturn, 1) := by decide +kernel
theorem dX2_remaindersBy_7 : decode cX2_remaindersBy 7 = .ok (.iconst 0, 1) := by decide +kernel
theorem dX2_remaindersBy_8 : decode cX2_remaindersBy 8 = .ok (.istore_n 2, 1) := by decide +kernel
theorem dX2_remaindersBy_9 : decode cX2_remaindersBy 9 = .ok (.iconst 0, 1) := by decide +kernel
theorem dX2_remaindersBy_10 : decode cX2_remaindersBy 10 = .ok (.istore_n 3, 1) := by decide +kernel
theorem dX2_remaindersBy_11 : decode cX2_remaindersBy 11 = .ok (.iload_n 3, 1) := by decide +kernel
theorem dX2_remaindersBy_12 : decode cX2_remaindersBy 12 = .ok (.iload_n 1, 1) := by decide +kernel
theorem dX2_remaindersBy_13 : decode cX2_remaindersBy 13 = .ok (.if_icmp .ge 42, 3) := by decide +kernel
theorem dX2_remaindersBy_16 : decode cX2_remaindersBy 16 = .ok (.iconst 0, 1) := by decide +kernel
theorem dX2_remaindersBy_17 : decode cX2_remaindersBy 17 = .ok (.istore 4, 2) := by decide +kernel
theorem dX2_remaindersBy_19 : decode cX2_remaindersBy 19 = .ok (.iload 4, 2) := by decide +kernel
theorem dX2_remaindersBy_21 : decode cX2_remaindersBy 21 = .ok (.iload_n 1, 1) := by decide +kernel
theorem dX2_remaindersBy_22 : decode cX2_remaindersBy 22 = .ok (.if_icmp .ge 27, 3) := by decide +kernel
theorem dX2_remaindersBy_25 : decode cX2_remaindersBy 25 = .ok (.iload_n 2, 1) := by decide +kernel
theorem dX2_remaindersBy_26 : decode cX2_remaindersBy 26 = .ok (.iconst 1, 1) := by decide +kernel
theorem dX2_remaindersBy_27 : decode cX2_remaindersBy 27 = .ok (.aload_n 0, 1) := by decide +kernel
theorem dX2_remaindersBy_28 : decode cX2_remaindersBy 28 = .ok (.iload_n 3, 1) := by decide +kernel
theorem dX2_remaindersBy_29 : decode cX2_remaindersBy 29 = .ok (.i2l, 1) := by decide +kernel
theorem dX2_remaindersBy_30 : decode cX2_remaindersBy 30 = .ok (.iload 4, 2) := by decide +kernel
theorem dX2_remaindersBy_32 : decode cX2_remaindersBy 32 = .ok (.i2l, 1) := by decide +kernel
theorem dX2_remaindersBy_33 : decode cX2_remaindersBy 33 = .ok (.invokevirtual 56, 3) := by decide +kernel
theorem dX2_remaindersBy_36 : decode cX2_remaindersBy 36 = .ok (.iload_n 1, 1) := by decide +kernel
theorem dX2_remaindersBy_37 : decode cX2_remaindersBy 37 = .ok (.invokestatic 60, 3) := by decide +kernel
theorem dX2_remaindersBy_40 : decode cX2_remaindersBy 40 = .ok (.ishl, 1) := by decide +kernel
theorem dX2_remaindersBy_41 : decode cX2_remaindersBy 41 = .ok (.ior, 1) := by decide +kernel
theorem dX2_remaindersBy_42 : decode cX2_remaindersBy 42 = .ok (.istore_n 2, 1) := by decide +kernel
theorem dX2_remaindersBy_43 : decode cX2_remaindersBy 43 = .ok (.iinc 4 1, 3) := by decide +kernel
theorem dX2_remaindersBy_46 : decode cX2_remaindersBy 46 = .ok (.goto (-27), 3) := by decide +kernel
theorem dX2_remaindersBy_49 : decode cX2_remaindersBy 49 = .ok (.iinc 3 1, 3) := by decide +kernel
theorem dX2_remaindersBy_52 : decode cX2_remaindersBy 52 = .ok (.goto (-41), 3) := by decide +kernel
theorem dX2_remaindersBy_55 : decode cX2_remaindersBy 55 = .ok (.iload_n 2, 1) := by decide +kernel
theorem dX2_remaindersBy_56 : decode cX2_remaindersBy 56 = .ok (.ireturn, 1) := by decide +kernel
theorem dX2_moveBy_0 : decode cX2_moveBy 0 = .ok (.iload_n 1, 1) := by decide +kernel
theorem dX2_moveBy_1 : decode cX2_moveBy 1 = .ok (.invokestatic 64, 3) := by decide +kernel
theorem dX2_moveBy_4 : decode cX2_moveBy 4 = .ok (.ifCond .ne 5, 3) := by decide +kernel
theorem dX2_moveBy_7 : decode cX2_moveBy 7 = .ok (.iconst 0, 1) := by decide +kernel
theorem dX2_moveBy_8 : decode cX2_moveBy 8 = .ok (.ireturn, 1) := by decide +kernel
theorem dX2_moveBy_9 : decode cX2_moveBy 9 = .ok (.iload_n 1, 1) := by decide +kernel
theorem dX2_moveBy_10 : decode cX2_moveBy 10 = .ok (.iconst 4, 1) := by decide +kernel
theorem dX2_moveBy_11 : decode cX2_moveBy 11 = .ok (.imul, 1) := by decide +kernel
theorem dX2_moveBy_12 : decode cX2_moveBy 12 = .ok (.istore_n 2, 1) := by decide +kernel
theorem dX2_moveBy_13 : decode cX2_moveBy 13 = .ok (.iload_n 1, 1) := by decide +kernel
theorem dX2_moveBy_14 : decode cX2_moveBy 14 = .ok (.iconst 4, 1) := by decide +kernel
theorem dX2_moveBy_15 : decode cX2_moveBy 15 = .ok (.if_icmp .ge 44, 3) := by decide +kernel
theorem dX2_moveBy_18 : decode cX2_moveBy 18 = .ok (.iload_n 2, 1) := by decide +kernel
theorem dX2_moveBy_19 : decode cX2_moveBy 19 = .ok (.iconst 3, 1) := by decide +kernel
theorem dX2_moveBy_20 : decode cX2_moveBy 20 = .ok (.iadd, 1) := by decide +kernel
theorem dX2_moveBy_21 : decode cX2_moveBy 21 = .ok (.getstatic 67, 3) := by decide +kernel
theorem dX2_moveBy_24 : decode cX2_moveBy 24 = .ok (.arraylength, 1) := by decide +kernel
theorem dX2_moveBy_25 : decode cX2_moveBy 25 = .ok (.if_icmp .ge 34, 3) := by decide +kernel
theorem dX2_moveBy_28 : decode cX2_moveBy 28 = .ok (.aload_n 0, 1) := by decide +kernel
theorem dX2_moveBy_29 : decode cX2_moveBy 29 = .ok (.getstatic 67, 3) := by decide +kernel
theorem dX2_moveBy_32 : decode cX2_moveBy 32 = .ok (.iload_n 2, 1) := by decide +kernel
theorem dX2_moveBy_33 : decode cX2_moveBy 33 = .ok (.iaload, 1) := by decide +kernel
theorem dX2_moveBy_34 : decode cX2_moveBy 34 = .ok (.getstatic 67, 3) := by decide +kernel
theorem dX2_moveBy_37 : decode cX2_moveBy 37 = .ok (.iload_n 2, 1) := by decide +kernel
theorem dX2_moveBy_38 : decode cX2_moveBy 38 = .ok (.iconst 1, 1) := by decide +kernel
theorem dX2_moveBy_39 : decode cX2_moveBy 39 = .ok (.iadd, 1) := by decide +kernel
theorem dX2_moveBy_40 : decode cX2_moveBy 40 = .ok (.iaload, 1) := by decide +kernel
theorem dX2_moveBy_41 : decode cX2_moveBy 41 = .ok (.getstatic 67, 3) := by decide +kernel
theorem dX2_moveBy_44 : decode cX2_moveBy 44 = .ok (.iload_n 2, 1) := by decide +kernel
theorem dX2_moveBy_45 : decode cX2_moveBy 45 = .ok (.iconst 2, 1) := by decide +kernel
theorem dX2_moveBy_46 : decode cX2_moveBy 46 = .ok (.iadd, 1) := by decide +kernel
theorem dX2_moveBy_47 : decode cX2_moveBy 47 = .ok (.iaload, 1) := by decide +kernel
theorem dX2_moveBy_48 : decode cX2_moveBy 48 = .ok (.getstatic 67, 3) := by decide +kernel
theorem dX2_moveBy_51 : decode cX2_moveBy 51 = .ok (.iload_n 2, 1) := by decide +kernel
theorem dX2_moveBy_52 : decode cX2_moveBy 52 = .ok (.iconst 3, 1) := by decide +kernel
theorem dX2_moveBy_53 : decode cX2_moveBy 53 = .ok (.iadd, 1) := by decide +kernel
theorem dX2_moveBy_54 : decode cX2_moveBy 54 = .ok (.iaload, 1) := by decide +kernel
theorem dX2_moveBy_55 : decode cX2_moveBy 55 = .ok (.invokevirtual 70, 3) := by decide +kernel
theorem dX2_moveBy_58 : decode cX2_moveBy 58 = .ok (.ireturn, 1) := by decide +kernel
theorem dX2_moveBy_59 : decode cX2_moveBy 59 = .ok (.iconst 0, 1) := by decide +kernel
theorem dX2_moveBy_60 : decode cX2_moveBy 60 = .ok (.istore_n 3, 1) := by decide +kernel
theorem dX2_moveBy_61 : decode cX2_moveBy 61 = .ok (.iload_n 3, 1) := by decide +kernel
theorem dX2_moveBy_62 : decode cX2_moveBy 62 = .ok (.aload_n 0, 1) := by decide +kernel
theorem dX2_moveBy_63 : decode cX2_moveBy 63 = .ok (.getfield 15, 3) := by decide +kernel
theorem dX2_moveBy_66 : decode cX2_moveBy 66 = .ok (.arraylength, 1) := by decide +kernel
theorem dX2_moveBy_67 : decode cX2_moveBy 67 = .ok (.if_icmp .ge 22, 3) := by decide +kernel
theorem dX2_moveBy_70 : decode cX2_moveBy 70 = .ok (.aload_n 0, 1) := by decide +kernel
theorem dX2_moveBy_71 : decode cX2_moveBy 71 = .ok (.getfield 15, 3) := by decide +kernel
theorem dX2_moveBy_74 : decode cX2_moveBy 74 = .ok (.iload_n 3, 1) := by decide +kernel
theorem dX2_moveBy_75 : decode cX2_moveBy 75 = .ok (.aload_n 0, 1) := by decide +kernel
theorem dX2_moveBy_76 : decode cX2_moveBy 76 = .ok (.getfield 15, 3) := by decide +kernel
theorem dX2_moveBy_79 : decode cX2_moveBy 79 = .ok (.iload_n 3, 1) := by decide +kernel
theorem dX2_moveBy_80 : decode cX2_moveBy 80 = .ok (.iaload, 1) := by decide +kernel
theorem dX2_moveBy_81 : decode cX2_moveBy 81 = .ok (.ineg, 1) := by decide +kernel
theorem dX2_moveBy_82 : decode cX2_moveBy 82 = .ok (.iastore, 1) := by decide +kernel
theorem dX2_moveBy_83 : decode cX2_moveBy 83 = .ok (.iinc 3 1, 3) := by decide +kernel
theorem dX2_moveBy_86 : decode cX2_moveBy 86 = .ok (.goto (-25), 3) := by decide +kernel
theorem dX2_moveBy_89 : decode cX2_moveBy 89 = .ok (.iconst 1, 1) := by decide +kernel
theorem dX2_moveBy_90 : decode cX2_moveBy 90 = .ok (.ireturn, 1) := by decide +kernel
theorem dX2_turnBy_0 : decode cX2_turnBy 0 = .ok (.aload_n 0, 1) := by decide +kernel
theorem dX2_turnBy_1 : decode cX2_turnBy 1 = .ok (.iload_n 1, 1) := by decide +kernel
theorem dX2_turnBy_2 : decode cX2_turnBy 2 = .ok (.iload_n 2, 1) := by decide +kernel
theorem dX2_turnBy_3 : decode cX2_turnBy 3 = .ok (.iload_n 3, 1) := by decide +kernel
theorem dX2_turnBy_4 : decode cX2_turnBy 4 = .ok (.iload 4, 2) := by decide +kernel
theorem dX2_turnBy_6 : decode cX2_turnBy 6 = .ok (.invokevirtual 74, 3) := by decide +kernel
theorem dX2_turnBy_9 : decode cX2_turnBy 9 = .ok (.iconst 0, 1) := by decide +kernel
theorem dX2_turnBy_10 : decode cX2_turnBy 10 = .ok (.istore 5, 2) := by decide +kernel
theorem dX2_turnBy_12 : decode cX2_turnBy 12 = .ok (.iload 5, 2) := by decide +kernel
theorem dX2_turnBy_14 : decode cX2_turnBy 14 = .ok (.aload_n 0, 1) := by decide +kernel
theorem dX2_turnBy_15 : decode cX2_turnBy 15 = .ok (.getfield 19, 3) := by decide +kernel
theorem dX2_turnBy_18 : decode cX2_turnBy 18 = .ok (.arraylength, 1) := by decide +kernel
theorem dX2_turnBy_19 : decode cX2_turnBy 19 = .ok (.if_icmp .ge 39, 3) := by decide +kernel
theorem dX2_turnBy_22 : decode cX2_turnBy 22 = .ok (.aload_n 0, 1) := by decide +kernel
theorem dX2_turnBy_23 : decode cX2_turnBy 23 = .ok (.getfield 19, 3) := by decide +kernel
theorem dX2_turnBy_26 : decode cX2_turnBy 26 = .ok (.iload 5, 2) := by decide +kernel
theorem dX2_turnBy_28 : decode cX2_turnBy 28 = .ok (.laload, 1) := by decide +kernel
theorem dX2_turnBy_29 : decode cX2_turnBy 29 = .ok (.ldc2_w 78, 3) := by decide +kernel
theorem dX2_turnBy_32 : decode cX2_turnBy 32 = .ok (.lcmp, 1) := by decide +kernel
theorem dX2_turnBy_33 : decode cX2_turnBy 33 = .ok (.ifCond .gt 17, 3) := by decide +kernel
theorem dX2_turnBy_36 : decode cX2_turnBy 36 = .ok (.aload_n 0, 1) := by decide +kernel
theorem dX2_turnBy_37 : decode cX2_turnBy 37 = .ok (.getfield 19, 3) := by decide +kernel
theorem dX2_turnBy_40 : decode cX2_turnBy 40 = .ok (.iload 5, 2) := by decide +kernel
theorem dX2_turnBy_42 : decode cX2_turnBy 42 = .ok (.laload, 1) := by decide +kernel
theorem dX2_turnBy_43 : decode cX2_turnBy 43 = .ok (.ldc2_w 80, 3) := by decide +kernel
theorem dX2_turnBy_46 : decode cX2_turnBy 46 = .ok (.lcmp, 1) := by decide +kernel
theorem dX2_turnBy_47 : decode cX2_turnBy 47 = .ok (.ifCond .ge 5, 3) := by decide +kernel
theorem dX2_turnBy_50 : decode cX2_turnBy 50 = .ok (.iconst 0, 1) := by decide +kernel
theorem dX2_turnBy_51 : decode cX2_turnBy 51 = .ok (.ireturn, 1) := by decide +kernel
theorem dX2_turnBy_52 : decode cX2_turnBy 52 = .ok (.iinc 5 1, 3) := by decide +kernel
theorem dX2_turnBy_55 : decode cX2_turnBy 55 = .ok (.goto (-43), 3) := by decide +kernel
theorem dX2_turnBy_58 : decode cX2_turnBy 58 = .ok (.iconst 0, 1) := by decide +kernel
theorem dX2_turnBy_59 : decode cX2_turnBy 59 = .ok (.istore 5, 2) := by decide +kernel
theorem dX2_turnBy_61 : decode cX2_turnBy 61 = .ok (.iload 5, 2) := by decide +kernel
theorem dX2_turnBy_63 : decode cX2_turnBy 63 = .ok (.aload_n 0, 1) := by decide +kernel
theorem dX2_turnBy_64 : decode cX2_turnBy 64 = .ok (.getfield 19, 3) := by decide +kernel
theorem dX2_turnBy_67 : decode cX2_turnBy 67 = .ok (.arraylength, 1) := by decide +kernel
theorem dX2_turnBy_68 : decode cX2_turnBy 68 = .ok (.if_icmp .ge 34, 3) := by decide +kernel
theorem dX2_turnBy_71 : decode cX2_turnBy 71 = .ok (.iload 5, 2) := by decide +kernel
theorem dX2_turnBy_73 : decode cX2_turnBy 73 = .ok (.aload_n 0, 1) := by decide +kernel
theorem dX2_turnBy_74 : decode cX2_turnBy 74 = .ok (.getfield 15, 3) := by decide +kernel
theorem dX2_turnBy_77 : decode cX2_turnBy 77 = .ok (.arraylength, 1) := by decide +kernel
theorem dX2_turnBy_78 : decode cX2_turnBy 78 = .ok (.if_icmp .ge 24, 3) := by decide +kernel
theorem dX2_turnBy_81 : decode cX2_turnBy 81 = .ok (.aload_n 0, 1) := by decide +kernel
theorem dX2_turnBy_82 : decode cX2_turnBy 82 = .ok (.getfield 15, 3) := by decide +kernel
theorem dX2_turnBy_85 : decode cX2_turnBy 85 = .ok (.iload 5, 2) := by decide +kernel
theorem dX2_turnBy_87 : decode cX2_turnBy 87 = .ok (.aload_n 0, 1) := by decide +kernel
theorem dX2_turnBy_88 : decode cX2_turnBy 88 = .ok (.getfield 19, 3) := by decide +kernel
theorem dX2_turnBy_91 : decode cX2_turnBy 91 = .ok (.iload 5, 2) := by decide +kernel
theorem dX2_turnBy_93 : decode cX2_turnBy 93 = .ok (.laload, 1) := by decide +kernel
theorem dX2_turnBy_94 : decode cX2_turnBy 94 = .ok (.l2i, 1) := by decide +kernel
theorem dX2_turnBy_95 : decode cX2_turnBy 95 = .ok (.iastore, 1) := by decide +kernel
theorem dX2_turnBy_96 : decode cX2_turnBy 96 = .ok (.iinc 5 1, 3) := by decide +kernel
theorem dX2_turnBy_99 : decode cX2_turnBy 99 = .ok (.goto (-38), 3) := by decide +kernel
theorem dX2_turnBy_102 : decode cX2_turnBy 102 = .ok (.iconst 1, 1) := by decide +kernel
theorem dX2_turnBy_103 : decode cX2_turnBy 103 = .ok (.ireturn, 1) := by decide +kernel
theorem dX2_isLeftBy_0 : decode cX2_isLeftBy 0 = .ok (.aload_n 0, 1) := by decide +kernel
theorem dX2_isLeftBy_1 : decode cX2_isLeftBy 1 = .ok (.iload_n 1, 1) := by decide +kernel
theorem dX2_isLeftBy_2 : decode cX2_isLeftBy 2 = .ok (.iload_n 2, 1) := by decide +kernel
theorem dX2_isLeftBy_3 : decode cX2_isLeftBy 3 = .ok (.iload_n 3, 1) := by decide +kernel
theorem dX2_isLeftBy_4 : decode cX2_isLeftBy 4 = .ok (.iload 4, 2) := by decide +kernel
theorem dX2_isLeftBy_6 : decode cX2_isLeftBy 6 = .ok (.invokevirtual 74, 3) := by decide +kernel
theorem dX2_isLeftBy_9 : decode cX2_isLeftBy 9 = .ok (.iconst 0, 1) := by decide +kernel
theorem dX2_isLeftBy_10 : decode cX2_isLeftBy 10 = .ok (.istore 5, 2) := by decide +kernel
theorem dX2_isLeftBy_12 : decode cX2_isLeftBy 12 = .ok (.iload 5, 2) := by decide +kernel
theorem dX2_isLeftBy_14 : decode cX2_isLeftBy 14 = .ok (.aload_n 0, 1) := by decide +kernel
theorem dX2_isLeftBy_15 : decode cX2_isLeftBy 15 = .ok (.getfield 19, 3) := by decide +kernel
theorem dX2_isLeftBy_18 : decode cX2_isLeftBy 18 = .ok (.arraylength, 1) := by decide +kernel
theorem dX2_isLeftBy_19 : decode cX2_isLeftBy 19 = .ok (.if_icmp .ge 40, 3) := by decide +kernel
theorem dX2_isLeftBy_22 : decode cX2_isLeftBy 22 = .ok (.iload 5, 2) := by decide +kernel
theorem dX2_isLeftBy_24 : decode cX2_isLeftBy 24 = .ok (.aload_n 0, 1) := by decide +kernel
theorem dX2_isLeftBy_25 : decode cX2_isLeftBy 25 = .ok (.getfield 15, 3) := by decide +kernel
theorem dX2_isLeftBy_28 : decode cX2_isLeftBy 28 = .ok (.arraylength, 1) := by decide +kernel
theorem dX2_isLeftBy_29 : decode cX2_isLeftBy 29 = .ok (.if_icmp .ge 30, 3) := by decide +kernel
theorem dX2_isLeftBy_32 : decode cX2_isLeftBy 32 = .ok (.aload_n 0, 1) := by decide +kernel
theorem dX2_isLeftBy_33 : decode cX2_isLeftBy 33 = .ok (.getfield 19, 3) := by decide +kernel
theorem dX2_isLeftBy_36 : decode cX2_isLeftBy 36 = .ok (.iload 5, 2) := by decide +kernel
theorem dX2_isLeftBy_38 : decode cX2_isLeftBy 38 = .ok (.laload, 1) := by decide +kernel
theorem dX2_isLeftBy_39 : decode cX2_isLeftBy 39 = .ok (.aload_n 0, 1) := by decide +kernel
theorem dX2_isLeftBy_40 : decode cX2_isLeftBy 40 = .ok (.getfield 15, 3) := by decide +kernel
theorem dX2_isLeftBy_43 : decode cX2_isLeftBy 43 = .ok (.iload 5, 2) := by decide +kernel
theorem dX2_isLeftBy_45 : decode cX2_isLeftBy 45 = .ok (.iaload, 1) := by decide +kernel
theorem dX2_isLeftBy_46 : decode cX2_isLeftBy 46 = .ok (.i2l, 1) := by decide +kernel
theorem dX2_isLeftBy_47 : decode cX2_isLeftBy 47 = .ok (.lcmp, 1) := by decide +kernel
theorem dX2_isLeftBy_48 : decode cX2_isLeftBy 48 = .ok (.ifCond .eq 5, 3) := by decide +kernel
theorem dX2_isLeftBy_51 : decode cX2_isLeftBy 51 = .ok (.iconst 0, 1) := by decide +kernel
theorem dX2_isLeftBy_52 : decode cX2_isLeftBy 52 = .ok (.ireturn, 1) := by decide +kernel
theorem dX2_isLeftBy_53 : decode cX2_isLeftBy 53 = .ok (.iinc 5 1, 3) := by decide +kernel
theorem dX2_isLeftBy_56 : decode cX2_isLeftBy 56 = .ok (.goto (-44), 3) := by decide +kernel
theorem dX2_isLeftBy_59 : decode cX2_isLeftBy 59 = .ok (.iconst 1, 1) := by decide +kernel
theorem dX2_isLeftBy_60 : decode cX2_isLeftBy 60 = .ok (.ireturn, 1) := by decide +kernel
theorem dX2_findTurned_0 : decode cX2_findTurned 0 = .ok (.aload_n 0, 1) := by decide +kernel
theorem dX2_findTurned_1 : decode cX2_findTurned 1 = .ok (.getfield 19, 3) := by decide +kernel
theorem dX2_findTurned_4 : decode cX2_findTurned 4 = .ok (.lconst 0, 1) := by decide +kernel
theorem dX2_findTurned_5 : decode cX2_findTurned 5 = .ok (.invokestatic 82, 3) := by decide +kernel
theorem dX2_findTurned_8 : decode cX2_findTurned 8 = .ok (.aload_n 0, 1) := by decide +kernel
theorem dX2_findTurned_9 : decode cX2_findTurned 9 = .ok (.getfield 23, 3) := by decide +kernel
theorem dX2_findTurned_12 : decode cX2_findTurned 12 = .ok (.lconst 0, 1) := by decide +kernel
theorem dX2_findTurned_13 : decode cX2_findTurned 13 = .ok (.invokestatic 82, 3) := by decide +kernel
theorem dX2_findTurned_16 : decode cX2_findTurned 16 = .ok (.aload_n 0, 1) := by decide +kernel
theorem dX2_findTurned_17 : decode cX2_findTurned 17 = .ok (.getfield 19, 3) := by decide +kernel
theorem dX2_findTurned_20 : decode cX2_findTurned 20 = .ok (.iconst 0, 1) := by decide +kernel
theorem dX2_findTurned_21 : decode cX2_findTurned 21 = .ok (.aload_n 0, 1) := by decide +kernel
theorem dX2_findTurned_22 : decode cX2_findTurned 22 = .ok (.getfield 15, 3) := by decide +kernel
theorem dX2_findTurned_25 : decode cX2_findTurned 25 = .ok (.iconst 0, 1) := by decide +kernel
theorem dX2_findTurned_26 : decode cX2_findTurned 26 = .ok (.iaload, 1) := by decide +kernel
theorem dX2_findTurned_27 : decode cX2_findTurned 27 = .ok (.i2l, 1) := by decide +kernel
theorem dX2_findTurned_28 : decode cX2_findTurned 28 = .ok (.lastore, 1) := by decide +kernel
theorem dX2_findTurned_29 : decode cX2_findTurned 29 = .ok (.aload_n 0, 1) := by decide +kernel
theorem dX2_findTurned_30 : decode cX2_findTurned 30 = .ok (.getfield 23, 3) := by decide +kernel
theorem dX2_findTurned_33 : decode cX2_findTurned 33 = .ok (.iconst 0, 1) := by decide +kernel
theorem dX2_findTurned_34 : decode cX2_findTurned 34 = .ok (.lconst 1, 1) := by decide +kernel
theorem dX2_findTurned_35 : decode cX2_findTurned 35 = .ok (.lastore, 1) := by decide +kernel
theorem dX2_findTurned_36 : decode cX2_findTurned 36 = .ok (.iconst 1, 1) := by decide +kernel
theorem dX2_findTurned_37 : decode cX2_findTurned 37 = .ok (.istore 5, 2) := by decide +kernel
theorem dX2_findTurned_39 : decode cX2_findTurned 39 = .ok (.iload 5, 2) := by decide +kernel
theorem dX2_findTurned_41 : decode cX2_findTurned 41 = .ok (.aload_n 0, 1) := by decide +kernel
theorem dX2_findTurned_42 : decode cX2_findTurned 42 = .ok (.getfield 9, 3) := by decide +kernel
theorem dX2_findTurned_45 : decode cX2_findTurned 45 = .ok (.if_icmp .gt 93, 3) := by decide +kernel
theorem dX2_findTurned_48 : decode cX2_findTurned 48 = .ok (.iload 5, 2) := by decide +kernel
theorem dX2_findTurned_50 : decode cX2_findTurned 50 = .ok (.aload_n 0, 1) := by decide +kernel
theorem dX2_findTurned_51 : decode cX2_findTurned 51 = .ok (.getfield 15, 3) := by decide +kernel
theorem dX2_findTurned_54 : decode cX2_findTurned 54 = .ok (.arraylength, 1) := by decide +kernel
theorem dX2_findTurned_55 : decode cX2_findTurned 55 = .ok (.if_icmp .ge 83, 3) := by decide +kernel
theorem dX2_findTurned_58 : decode cX2_findTurned 58 = .ok (.aload_n 0, 1) := by decide +kernel
theorem dX2_findTurned_59 : decode cX2_findTurned 59 = .ok (.getfield 23, 3) := by decide +kernel
theorem dX2_findTurned_62 : decode cX2_findTurned 62 = .ok (.iload_n 3, 1) := by decide +kernel
theorem dX2_findTurned_63 : decode cX2_findTurned 63 = .ok (.iload 4, 2) := by decide +kernel
theorem dX2_findTurned_65 : decode cX2_findTurned 65 = .ok (.invokestatic 85, 3) := by decide +kernel
theorem dX2_findTurned_68 : decode cX2_findTurned 68 = .ok (.aload_n 0, 1) := by decide +kernel
theorem dX2_findTurned_69 : decode cX2_findTurned 69 = .ok (.getfield 19, 3) := by decide +kernel
theorem dX2_findTurned_72 : decode cX2_findTurned 72 = .ok (.iload_n 1, 1) := by decide +kernel
theorem dX2_findTurned_73 : decode cX2_findTurned 73 = .ok (.iload_n 2, 1) := by decide +kernel
theorem dX2_findTurned_74 : decode cX2_findTurned 74 = .ok (.invokestatic 85, 3) := by decide +kernel
theorem dX2_findTurned_77 : decode cX2_findTurned 77 = .ok (.iconst 0, 1) := by decide +kernel
theorem dX2_findTurned_78 : decode cX2_findTurned 78 = .ok (.istore 6, 2) := by decide +kernel
theorem dX2_findTurned_80 : decode cX2_findTurned 80 = .ok (.iload 6, 2) := by decide +kernel
theorem dX2_findTurned_82 : decode cX2_findTurned 82 = .ok (.aload_n 0, 1) := by decide +kernel
theorem dX2_findTurned_83 : decode cX2_findTurned 83 = .ok (.getfield 19, 3) := by decide +kernel
theorem dX2_findTurned_86 : decode cX2_findTurned 86 = .ok (.arraylength, 1) := by decide +kernel
theorem dX2_findTurned_87 : decode cX2_findTurned 87 = .ok (.if_icmp .ge 45, 3) := by decide +kernel
theorem dX2_findTurned_90 : decode cX2_findTurned 90 = .ok (.iload 6, 2) := by decide +kernel
theorem dX2_findTurned_92 : decode cX2_findTurned 92 = .ok (.aload_n 0, 1) := by decide +kernel
theorem dX2_findTurned_93 : decode cX2_findTurned 93 = .ok (.getfield 23, 3) := by decide +kernel
theorem dX2_findTurned_96 : decode cX2_findTurned 96 = .ok (.arraylength, 1) := by decide +kernel
theorem dX2_findTurned_97 : decode cX2_findTurned 97 = .ok (.if_icmp .ge 35, 3) := by decide +kernel
theorem dX2_findTurned_100 : decode cX2_findTurned 100 = .ok (.aload_n 0, 1) := by decide +kernel
theorem dX2_findTurned_101 : decode cX2_findTurned 101 = .ok (.getfield 19, 3) := by decide +kernel
theorem dX2_findTurned_104 : decode cX2_findTurned 104 = .ok (.iload 6, 2) := by decide +kernel
theorem dX2_findTurned_106 : decode cX2_findTurned 106 = .ok (.dup2, 1) := by decide +kernel
theorem dX2_findTurned_107 : decode cX2_findTurned 107 = .ok (.laload, 1) := by decide +kernel
theorem dX2_findTurned_108 : decode cX2_findTurned 108 = .ok (.aload_n 0, 1) := by decide +kernel
theorem dX2_findTurned_109 : decode cX2_findTurned 109 = .ok (.getfield 15, 3) := by decide +kernel
theorem dX2_findTurned_112 : decode cX2_findTurned 112 = .ok (.iload 5, 2) := by decide +kernel
theorem dX2_findTurned_114 : decode cX2_findTurned 114 = .ok (.iaload, 1) := by decide +kernel
theorem dX2_findTurned_115 : decode cX2_findTurned 115 = .ok (.i2l, 1) := by decide +kernel
theorem dX2_findTurned_116 : decode cX2_findTurned 116 = .ok (.aload_n 0, 1) := by decide +kernel
theorem dX2_findTurned_117 : decode cX2_findTurned 117 = .ok (.getfield 23, 3) := by decide +kernel
theorem dX2_findTurned_120 : decode cX2_findTurned 120 = .ok (.iload 6, 2) := by decide +kernel
theorem dX2_findTurned_122 : decode cX2_findTurned 122 = .ok (.laload, 1) := by decide +kernel
theorem dX2_findTurned_123 : decode cX2_findTurned 123 = .ok (.lmul, 1) := by decide +kernel
theorem dX2_findTurned_124 : decode cX2_findTurned 124 = .ok (.ladd, 1) := by decide +kernel
theorem dX2_findTurned_125 : decode cX2_findTurned 125 = .ok (.lastore, 1) := by decide +kernel
theorem dX2_findTurned_126 : decode cX2_findTurned 126 = .ok (.iinc 6 1, 3) := by decide +kernel
theorem dX2_findTurned_129 : decode cX2_findTurned 129 = .ok (.goto (-49), 3) := by decide +kernel
theorem dX2_findTurned_132 : decode cX2_findTurned 132 = .ok (.iinc 5 1, 3) := by decide +kernel
theorem dX2_findTurned_135 : decode cX2_findTurned 135 = .ok (.goto (-96), 3) := by decide +kernel
theorem dX2_findTurned_138 : decode cX2_findTurned 138 = .ok (.return_, 1) := by decide +kernel
theorem dX2_multiply_0 : decode cX2_multiply 0 = .ok (.aload_n 0, 1) := by decide +kernel
theorem dX2_multiply_1 : decode cX2_multiply 1 = .ok (.arraylength, 1) := by decide +kernel
theorem dX2_multiply_2 : decode cX2_multiply 2 = .ok (.iconst 1, 1) := by decide +kernel
theorem dX2_multiply_3 : decode cX2_multiply 3 = .ok (.isub, 1) := by decide +kernel
theorem dX2_multiply_4 : decode cX2_multiply 4 = .ok (.istore_n 3, 1) := by decide +kernel
theorem dX2_multiply_5 : decode cX2_multiply 5 = .ok (.iload_n 3, 1) := by decide +kernel
theorem dX2_multiply_6 : decode cX2_multiply 6 = .ok (.ifCond .le 27, 3) := by decide +kernel
theorem dX2_multiply_9 : decode cX2_multiply 9 = .ok (.aload_n 0, 1) := by decide +kernel
theorem dX2_multiply_10 : decode cX2_multiply 10 = .ok (.iload_n 3, 1) := by decide +kernel
theorem dX2_multiply_11 : decode cX2_multiply 11 = .ok (.iload_n 1, 1) := by decide +kernel
theorem dX2_multiply_12 : decode cX2_multiply 12 = .ok (.i2l, 1) := by decide +kernel
theorem dX2_multiply_13 : decode cX2_multiply 13 = .ok (.aload_n 0, 1) := by decide +kernel
theorem dX2_multiply_14 : decode cX2_multiply 14 = .ok (.iload_n 3, 1) := by decide +kernel
theorem dX2_multiply_15 : decode cX2_multiply 15 = .ok (.laload, 1) := by decide +kernel
theorem dX2_multiply_16 : decode cX2_multiply 16 = .ok (.lmul, 1) := by decide +kernel
theorem dX2_multiply_17 : decode cX2_multiply 17 = .ok (.iload_n 2, 1) := by decide +kernel
theorem dX2_multiply_18 : decode cX2_multiply 18 = .ok (.i2l, 1) := by decide +kernel
theorem dX2_multiply_19 : decode cX2_multiply 19 = .ok (.aload_n 0, 1) := by decide +kernel
theorem dX2_multiply_20 : decode cX2_multiply 20 = .ok (.iload_n 3, 1) := by decide +kernel
theorem dX2_multiply_21 : decode cX2_multiply 21 = .ok (.iconst 1, 1) := by decide +kernel
theorem dX2_multiply_22 : decode cX2_multiply 22 = .ok (.isub, 1) := by decide +kernel
theorem dX2_multiply_23 : decode cX2_multiply 23 = .ok (.laload, 1) := by decide +kernel
theorem dX2_multiply_24 : decode cX2_multiply 24 = .ok (.lmul, 1) := by decide +kernel
theorem dX2_multiply_25 : decode cX2_multiply 25 = .ok (.ladd, 1) := by decide +kernel
theorem dX2_multiply_26 : decode cX2_multiply 26 = .ok (.lastore, 1) := by decide +kernel
theorem dX2_multiply_27 : decode cX2_multiply 27 = .ok (.iinc 3 (-1), 3) := by decide +kernel
theorem dX2_multiply_30 : decode cX2_multiply 30 = .ok (.goto (-25), 3) := by decide +kernel
theorem dX2_multiply_33 : decode cX2_multiply 33 = .ok (.aload_n 0, 1) := by decide +kernel
theorem dX2_multiply_34 : decode cX2_multiply 34 = .ok (.iconst 0, 1) := by decide +kernel
theorem dX2_multiply_35 : decode cX2_multiply 35 = .ok (.iload_n 1, 1) := by decide +kernel
theorem dX2_multiply_36 : decode cX2_multiply 36 = .ok (.i2l, 1) := by decide +kernel
theorem dX2_multiply_37 : decode cX2_multiply 37 = .ok (.aload_n 0, 1) := by decide +kernel
theorem dX2_multiply_38 : decode cX2_multiply 38 = .ok (.iconst 0, 1) := by decide +kernel
theorem dX2_multiply_39 : decode cX2_multiply 39 = .ok (.laload, 1) := by decide +kernel
theorem dX2_multiply_40 : decode cX2_multiply 40 = .ok (.lmul, 1) := by decide +kernel
theorem dX2_multiply_41 : decode cX2_multiply 41 = .ok (.lastore, 1) := by decide +kernel
theorem dX2_multiply_42 : decode cX2_multiply 42 = .ok (.return_, 1) := by decide +kernel
theorem dX3_init_0 : decode cX3_init 0 = .ok (.aload_n 0, 1) := by decide +kernel
theorem dX3_init_1 : decode cX3_init 1 = .ok (.invokespecial 3, 3) := by decide +kernel
theorem dX3_init_4 : decode cX3_init 4 = .ok (.aload_n 0, 1) := by decide +kernel
theorem dX3_init_5 : decode cX3_init 5 = .ok (.iconst 0, 1) := by decide +kernel
theorem dX3_init_6 : decode cX3_init 6 = .ok (.putfield 9, 3) := by decide +kernel
theorem dX3_init_9 : decode cX3_init 9 = .ok (.aload_n 0, 1) := by decide +kernel
theorem dX3_init_10 : decode cX3_init 10 = .ok (.iconst 0, 1) := by decide +kernel
theorem dX3_init_11 : decode cX3_init 11 = .ok (.putfield 15, 3) := by decide +kernel
theorem dX3_init_14 : decode cX3_init 14 = .ok (.aload_n 0, 1) := by decide +kernel
theorem dX3_init_15 : decode cX3_init 15 = .ok (.iconst 5, 1) := by decide +kernel
theorem dX3_init_16 : decode cX3_init 16 = .ok (.newarray .long, 2) := by decide +kernel
theorem dX3_init_18 : decode cX3_init 18 = .ok (.putfield 18, 3) := by decide +kernel
theorem dX3_init_21 : decode cX3_init 21 = .ok (.aload_n 0, 1) := by decide +kernel
theorem dX3_init_22 : decode cX3_init 22 = .ok (.bipush 8, 2) := by decide +kernel
theorem dX3_init_24 : decode cX3_init 24 = .ok (.newarray .int, 2) := by decide +kernel
theorem dX3_init_26 : decode cX3_init 26 = .ok (.putfield 22, 3) := by decide +kernel
theorem dX3_init_29 : decode cX3_init 29 = .ok (.aload_n 0, 1) := by decide +kernel
theorem dX3_init_30 : decode cX3_init 30 = .ok (.bipush 8, 2) := by decide +kernel
theorem dX3_init_32 : decode cX3_init 32 = .ok (.newarray .long, 2) := by decide +kernel
theorem dX3_init_34 : decode cX3_init 34 = .ok (.putfield 26, 3) := by decide +kernel
theorem dX3_init_37 : decode cX3_init 37 = .ok (.aload_n 0, 1) := by decide +kernel
theorem dX3_init_38 : decode cX3_init 38 = .ok (.bipush 8, 2) := by decide +kernel
theorem dX3_init_40 : decode cX3_init 40 = .ok (.newarray .long, 2) := by decide +kernel
theorem dX3_init_42 : decode cX3_init 42 = .ok (.putfield 29, 3) := by decide +kernel
theorem dX3_init_45 : decode cX3_init 45 = .ok (.return_, 1) := by decide +kernel
theorem dX3_look_0 : decode cX3_look 0 = .ok (.aload_n 0, 1) := by decide +kernel
theorem dX3_look_1 : decode cX3_look 1 = .ok (.iconst 0, 1) := by decide +kernel
theorem dX3_look_2 : decode cX3_look 2 = .ok (.putfield 9, 3) := by decide +kernel
theorem dX3_look_5 : decode cX3_look 5 = .ok (.aload_n 0, 1) := by decide +kernel
theorem dX3_look_6 : decode cX3_look 6 = .ok (.aload_n 1, 1) := by decide +kernel
theorem dX3_look_7 : decode cX3_look 7 = .ok (.getfield 32, 3) := by decide +kernel
theorem dX3_look_10 : decode cX3_look 10 = .ok (.putfield 15, 3) := by decide +kernel
theorem dX3_look_13 : decode cX3_look 13 = .ok (.iconst 0, 1) := by decide +kernel
theorem dX3_look_14 : decode cX3_look 14 = .ok (.istore_n 2, 1) := by decide +kernel
theorem dX3_look_15 : decode cX3_look 15 = .ok (.iload_n 2, 1) := by decide +kernel
theorem dX3_look_16 : decode cX3_look 16 = .ok (.aload_n 0, 1) := by decide +kernel
theorem dX3_look_17 : decode cX3_look 17 = .ok (.getfield 18, 3) := by decide +kernel
theorem dX3_look_20 : decode cX3_look 20 = .ok (.arraylength, 1) := by decide +kernel
theorem dX3_look_21 : decode cX3_look 21 = .ok (.if_icmp .ge 21, 3) := by decide +kernel
theorem dX3_look_24 : decode cX3_look 24 = .ok (.aload_n 0, 1) := by decide +kernel
theorem dX3_look_25 : decode cX3_look 25 = .ok (.getfield 18, 3) := by decide +kernel
theorem dX3_look_28 : decode cX3_look 28 = .ok (.iload_n 2, 1) := by decide +kernel
theorem dX3_look_29 : decode cX3_look 29 = .ok (.aload_n 1, 1) := by decide +kernel
theorem dX3_look_30 : decode cX3_look 30 = .ok (.iload_n 2, 1) := by decide +kernel
theorem dX3_look_31 : decode cX3_look 31 = .ok (.invokevirtual 35, 3) := by decide +kernel
theorem dX3_look_34 : decode cX3_look 34 = .ok (.i2l, 1) := by decide +kernel
theorem dX3_look_35 : decode cX3_look 35 = .ok (.lastore, 1) := by decide +kernel
theorem dX3_look_36 : decode cX3_look 36 = .ok (.iinc 2 1, 3) := by decide +kernel
theorem dX3_look_39 : decode cX3_look 39 = .ok (.goto (-24), 3) := by decide +kernel
theorem dX3_look_42 : decode cX3_look 42 = .ok (.iconst 0, 1) := by decide +kernel
theorem dX3_look_43 : decode cX3_look 43 = .ok (.istore_n 2, 1) := by decide +kernel
theorem dX3_look_44 : decode cX3_look 44 = .ok (.iload_n 2, 1) := by decide +kernel
theorem dX3_look_45 : decode cX3_look 45 = .ok (.bipush 8, 2) := by decide +kernel
theorem dX3_look_47 : decode cX3_look 47 = .ok (.if_icmp .ge 57, 3) := by decide +kernel
theorem dX3_look_50 : decode cX3_look 50 = .ok (.aload_n 0, 1) := by decide +kernel
theorem dX3_look_51 : decode cX3_look 51 = .ok (.iload_n 2, 1) := by decide +kernel
theorem dX3_look_52 : decode cX3_look 52 = .ok (.ifCond .ne 7, 3) := by decide +kernel
theorem dX3_look_55 : decode cX3_look 55 = .ok (.iconst 0, 1) := by decide +kernel
theorem dX3_look_56 : decode cX3_look 56 = .ok (.goto 4, 3) := by decide +kernel
theorem dX3_look_59 : decode cX3_look 59 = .ok (.iconst 1, 1) := by decide +kernel
theorem dX3_look_60 : decode cX3_look 60 = .ok (.invokevirtual 39, 3) := by decide +kernel
theorem dX3_look_63 : decode cX3_look 63 = .ok (.istore_n 3, 1) := by decide +kernel
theorem dX3_look_64 : decode cX3_look 64 = .ok (.iload_n 3, 1) := by decide +kernel
theorem dX3_look_65 : decode cX3_look 65 = .ok (.ifCond .ge 4, 3) := by decide +kernel
theorem dX3_look_68 : decode cX3_look 68 = .ok (.return_, 1) := by decide +kernel
theorem dX3_look_69 : decode cX3_look 69 = .ok (.aload_n 0, 1) := by decide +kernel
theorem dX3_look_70 : decode cX3_look 70 = .ok (.iload_n 3, 1) := by decide +kernel
theorem dX3_look_71 : decode cX3_look 71 = .ok (.invokevirtual 42, 3) := by decide +kernel
theorem dX3_look_74 : decode cX3_look 74 = .ok (.aload_n 0, 1) := by decide +kernel
theorem dX3_look_75 : decode cX3_look 75 = .ok (.iload_n 3, 1) := by decide +kernel
theorem dX3_look_76 : decode cX3_look 76 = .ok (.invokevirtual 46, 3) := by decide +kernel
theorem dX3_look_79 : decode cX3_look 79 = .ok (.lconst 0, 1) := by decide +kernel
theorem dX3_look_80 : decode cX3_look 80 = .ok (.lcmp, 1) := by decide +kernel
theorem dX3_look_81 : decode cX3_look 81 = .ok (.ifCond .ne 4, 3) := by decide +kernel
theorem dX3_look_84 : decode cX3_look 84 = .ok (.return_, 1) := by decide +kernel
theorem dX3_look_85 : decode cX3_look 85 = .ok (.aload_n 0, 1) := by decide +kernel
theorem dX3_look_86 : decode cX3_look 86 = .ok (.iload_n 3, 1) := by decide +kernel
theorem dX3_look_87 : decode cX3_look 87 = .ok (.invokevirtual 50, 3) := by decide +kernel
theorem dX3_look_90 : decode cX3_look 90 = .ok (.aload_n 0, 1) := by decide +kernel
theorem dX3_look_91 : decode cX3_look 91 = .ok (.invokevirtual 53, 3) := by decide +kernel
theorem dX3_look_94 : decode cX3_look 94 = .ok (.ifCond .eq 4, 3) := by decide +kernel
theorem dX3_look_97 : decode cX3_look 97 = .ok (.return_, 1) := by decide +kernel
theorem dX3_look_98 : decode cX3_look 98 = .ok (.iinc 2 1, 3) := by decide +kernel
theorem dX3_look_101 : decode cX3_look 101 = .ok (.goto (-57), 3) := by decide +kernel
theorem dX3_look_104 : decode cX3_look 104 = .ok (.return_, 1) := by decide +kernel
theorem dX3_get_0 : decode cX3_get 0 = .ok (.iload_n 1, 1) := by decide +kernel
theorem dX3_get_1 : decode cX3_get 1 = .ok (.ifCond .lt 26, 3) := by decide +kernel
theorem dX3_get_4 : decode cX3_get 4 = .ok (.iload_n 1, 1) := by decide +kernel
theorem dX3_get_5 : decode cX3_get 5 = .ok (.aload_n 0, 1) := by decide +kernel
theorem dX3_get_6 : decode cX3_get 6 = .ok (.getfield 9, 3) := by decide +kernel
theorem dX3_get_9 : decode cX3_get 9 = .ok (.if_icmp .ge 18, 3) := by decide +kernel
theorem dX3_get_12 : decode cX3_get 12 = .ok (.iload_n 1, 1) := by decide +kernel
theorem dX3_get_13 : decode cX3_get 13 = .ok (.bipush 8, 2) := by decide +kernel
theorem dX3_get_15 : decode cX3_get 15 = .ok (.if_icmp .ge 12, 3) := by decide +kernel
theorem dX3_get_18 : decode cX3_get 18 = .ok (.aload_n 0, 1) := by decide +kernel
theorem dX3_get_19 : decode cX3_get 19 = .ok (.getfield 22, 3) := by decide +kernel
theorem dX3_get_22 : decode cX3_get 22 = .ok (.iload_n 1, 1) := by decide +kernel
theorem dX3_get_23 : decode cX3_get 23 = .ok (.iaload, 1) := by decide +kernel
theorem dX3_get_24 : decode cX3_get 24 = .ok (.goto 4, 3) := by decide +kernel
theorem dX3_get_27 : decode cX3_get 27 = .ok (.iconst 0, 1) := by decide +kernel
theorem dX3_get_28 : decode cX3_get 28 = .ok (.ireturn, 1) := by decide +kernel
theorem dX3_above_0 : decode cX3_above 0 = .ok (.iload_n 1, 1) := by decide +kernel
theorem dX3_above_1 : decode cX3_above 1 = .ok (.ifCond .lt 26, 3) := by decide +kernel
theorem dX3_above_4 : decode cX3_above 4 = .ok (.iload_n 1, 1) := by decide +kernel
theorem dX3_above_5 : decode cX3_above 5 = .ok (.aload_n 0, 1) := by decide +kernel
theorem dX3_above_6 : decode cX3_above 6 = .ok (.getfield 9, 3) := by decide +kernel
theorem dX3_above_9 : decode cX3_above 9 = .ok (.if_icmp .ge 18, 3) := by decide +kernel
theorem dX3_above_12 : decode cX3_above 12 = .ok (.iload_n 1, 1) := by decide +kernel
theorem dX3_above_13 : decode cX3_above 13 = .ok (.bipush 8, 2) := by decide +kernel
theorem dX3_above_15 : decode cX3_above 15 = .ok (.if_icmp .ge 12, 3) := by decide +kernel
theorem dX3_above_18 : decode cX3_above 18 = .ok (.aload_n 0, 1) := by decide +kernel
theorem dX3_above_19 : decode cX3_above 19 = .ok (.getfield 26, 3) := by decide +kernel
theorem dX3_above_22 : decode cX3_above 22 = .ok (.iload_n 1, 1) := by decide +kernel
theorem dX3_above_23 : decode cX3_above 23 = .ok (.laload, 1) := by decide +kernel
theorem dX3_above_24 : decode cX3_above 24 = .ok (.goto 4, 3) := by decide +kernel
theorem dX3_above_27 : decode cX3_above 27 = .ok (.lconst 0, 1) := by decide +kernel
theorem dX3_above_28 : decode cX3_above 28 = .ok (.lreturn, 1) := by decide +kernel
theorem dX3_below_0 : decode cX3_below 0 = .ok (.iload_n 1, 1) := by decide +kernel
theorem dX3_below_1 : decode cX3_below 1 = .ok (.ifCond .lt 26, 3) := by decide +kernel
theorem dX3_below_4 : decode cX3_below 4 = .ok (.iload_n 1, 1) := by decide +kernel
theorem dX3_below_5 : decode cX3_below 5 = .ok (.aload_n 0, 1) := by decide +kernel
theorem dX3_below_6 : decode cX3_below 6 = .ok (.getfield 9, 3) := by decide +kernel
theorem dX3_below_9 : decode cX3_below 9 = .ok (.if_icmp .ge 18, 3) := by decide +kernel
theorem dX3_below_12 : decode cX3_below 12 = .ok (.iload_n 1, 1) := by decide +kernel
theorem dX3_below_13 : decode cX3_below 13 = .ok (.bipush 8, 2) := by decide +kernel
theorem dX3_below_15 : decode cX3_below 15 = .ok (.if_icmp .ge 12, 3) := by decide +kernel
theorem dX3_below_18 : decode cX3_below 18 = .ok (.aload_n 0, 1) := by decide +kernel
theorem dX3_below_19 : decode cX3_below 19 = .ok (.getfield 29, 3) := by decide +kernel
theorem dX3_below_22 : decode cX3_below 22 = .ok (.iload_n 1, 1) := by decide +kernel
theorem dX3_below_23 : decode cX3_below 23 = .ok (.laload, 1) := by decide +kernel
theorem dX3_below_24 : decode cX3_below 24 = .ok (.goto 4, 3) := by decide +kernel
theorem dX3_below_27 : decode cX3_below 27 = .ok (.lconst 0, 1) := by decide +kernel
theorem dX3_below_28 : decode cX3_below 28 = .ok (.lreturn, 1) := by decide +kernel
theorem dX3_greatestFrom_0 : decode cX3_greatestFrom 0 = .ok (.aload_n 0, 1) := by decide +kernel
theorem dX3_greatestFrom_1 : decode cX3_greatestFrom 1 = .ok (.bipush 100, 2) := by decide +kernel
theorem dX3_greatestFrom_3 : decode cX3_greatestFrom 3 = .ok (.invokevirtual 46, 3) := by decide +kernel
theorem dX3_greatestFrom_6 : decode cX3_greatestFrom 6 = .ok (.lstore_n 2, 1) := by decide +kernel
theorem dX3_greatestFrom_7 : decode cX3_greatestFrom 7 = .ok (.bipush 99, 2) := by decide +kernel
theorem dX3_greatestFrom_9 : decode cX3_greatestFrom 9 = .ok (.istore 4, 2) := by decide +kernel
theorem dX3_greatestFrom_11 : decode cX3_greatestFrom 11 = .ok (.iload 4, 2) := by decide +kernel
theorem dX3_greatestFrom_13 : decode cX3_greatestFrom 13 = .ok (.iload_n 1, 1) := by decide +kernel
theorem dX3_greatestFrom_14 : decode cX3_greatestFrom 14 = .ok (.if_icmp .lt 56, 3) := by decide +kernel
theorem dX3_greatestFrom_17 : decode cX3_greatestFrom 17 = .ok (.aload_n 0, 1) := by decide +kernel
theorem dX3_greatestFrom_18 : decode cX3_greatestFrom 18 = .ok (.iload 4, 2) := by decide +kernel
theorem dX3_greatestFrom_20 : decode cX3_greatestFrom 20 = .ok (.invokevirtual 46, 3) := by decide +kernel
theorem dX3_greatestFrom_23 : decode cX3_greatestFrom 23 = .ok (.lstore 5, 2) := by decide +kernel
theorem dX3_greatestFrom_25 : decode cX3_greatestFrom 25 = .ok (.lload 5, 2) := by decide +kernel
theorem dX3_greatestFrom_27 : decode cX3_greatestFrom 27 = .ok (.lconst 0, 1) := by decide +kernel
theorem dX3_greatestFrom_28 : decode cX3_greatestFrom 28 = .ok (.lcmp, 1) := by decide +kernel
theorem dX3_greatestFrom_29 : decode cX3_greatestFrom 29 = .ok (.ifCond .eq 29, 3) := by decide +kernel
theorem dX3_greatestFrom_32 : decode cX3_greatestFrom 32 = .ok (.lload 5, 2) := by decide +kernel
theorem dX3_greatestFrom_34 : decode cX3_greatestFrom 34 = .ok (.lconst 0, 1) := by decide +kernel
theorem dX3_greatestFrom_35 : decode cX3_greatestFrom 35 = .ok (.lcmp, 1) := by decide +kernel
theorem dX3_greatestFrom_36 : decode cX3_greatestFrom 36 = .ok (.ifCond .le 9, 3) := by decide +kernel
theorem dX3_greatestFrom_39 : decode cX3_greatestFrom 39 = .ok (.lload_n 2, 1) := by decide +kernel
theorem dX3_greatestFrom_40 : decode cX3_greatestFrom 40 = .ok (.lconst 0, 1) := by decide +kernel
theorem dX3_greatestFrom_41 : decode cX3_greatestFrom 41 = .ok (.lcmp, 1) := by decide +kernel
theorem dX3_greatestFrom_42 : decode cX3_greatestFrom 42 = .ok (.ifCond .lt 16, 3) := by decide +kernel
theorem dX3_greatestFrom_45 : decode cX3_greatestFrom 45 = .ok (.lload 5, 2) := by decide +kernel
theorem dX3_greatestFrom_47 : decode cX3_greatestFrom 47 = .ok (.lconst 0, 1) := by decide +kernel
theorem dX3_greatestFrom_48 : decode cX3_greatestFrom 48 = .ok (.lcmp, 1) := by decide +kernel
theorem dX3_greatestFrom_49 : decode cX3_greatestFrom 49 = .ok (.ifCond .ge 12, 3) := by decide +kernel
theorem dX3_greatestFrom_52 : decode cX3_greatestFrom 52 = .ok (.lload_n 2, 1) := by decide +kernel
theorem dX3_greatestFrom_53 : decode cX3_greatestFrom 53 = .ok (.lconst 0, 1) := by decide +kernel
theorem dX3_greatestFrom_54 : decode cX3_greatestFrom 54 = .ok (.lcmp, 1) := by decide +kernel
theorem dX3_greatestFrom_55 : decode cX3_greatestFrom 55 = .ok (.ifCond .le 6, 3) := by decide +kernel
theorem dX3_greatestFrom_58 : decode cX3_greatestFrom 58 = .ok (.iload 4, 2) := by decide +kernel
theorem dX3_greatestFrom_60 : decode cX3_greatestFrom 60 = .ok (.ireturn, 1) := by decide +kernel
theorem dX3_greatestFrom_61 : decode cX3_greatestFrom 61 = .ok (.lload 5, 2) := by decide +kernel
theorem dX3_greatestFrom_63 : decode cX3_greatestFrom 63 = .ok (.lstore_n 2, 1) := by decide +kernel
theorem dX3_greatestFrom_64 : decode cX3_greatestFrom 64 = .ok (.iinc 4 (-1), 3) := by decide +kernel
theorem dX3_greatestFrom_67 : decode cX3_greatestFrom 67 = .ok (.goto (-56), 3) := by decide +kernel
theorem dX3_greatestFrom_70 : decode cX3_greatestFrom 70 = .ok (.iconst (-1), 1) := by decide +kernel
theorem dX3_greatestFrom_71 : decode cX3_greatestFrom 71 = .ok (.ireturn, 1) := by decide +kernel
theorem dX3_at_0 : decode cX3_at 0 = .ok (.lconst 0, 1) := by decide +kernel
theorem dX3_at_1 : decode cX3_at 1 = .ok (.lstore_n 2, 1) := by decide +kernel
theorem dX3_at_2 : decode cX3_at 2 = .ok (.iconst 0, 1) := by decide +kernel
theorem dX3_at_3 : decode cX3_at 3 = .ok (.istore 4, 2) := by decide +kernel
theorem dX3_at_5 : decode cX3_at 5 = .ok (.iload 4, 2) := by decide +kernel
theorem dX3_at_7 : decode cX3_at 7 = .ok (.aload_n 0, 1) := by decide +kernel
theorem dX3_at_8 : decode cX3_at 8 = .ok (.getfield 15, 3) := by decide +kernel
theorem dX3_at_11 : decode cX3_at 11 = .ok (.if_icmp .gt 32, 3) := by decide +kernel
theorem dX3_at_14 : decode cX3_at 14 = .ok (.iload 4, 2) := by decide +kernel
theorem dX3_at_16 : decode cX3_at 16 = .ok (.aload_n 0, 1) := by decide +kernel
theorem dX3_at_17 : decode cX3_at 17 = .ok (.getfield 18, 3) := by decide +kernel
theorem dX3_at_20 : decode cX3_at 20 = .ok (.arraylength, 1) := by decide +kernel
theorem dX3_at_21 : decode cX3_at 21 = .ok (.if_icmp .ge 22, 3) := by decide +kernel
theorem dX3_at_24 : decode cX3_at 24 = .ok (.lload_n 2, 1) := by decide +kernel
theorem dX3_at_25 : decode cX3_at 25 = .ok (.iload_n 1, 1) := by decide +kernel
theorem dX3_at_26 : decode cX3_at 26 = .ok (.i2l, 1) := by decide +kernel
theorem dX3_at_27 : decode cX3_at 27 = .ok (.lmul, 1) := by decide +kernel
theorem dX3_at_28 : decode cX3_at 28 = .ok (.aload_n 0, 1) := by decide +kernel
theorem dX3_at_29 : decode cX3_at 29 = .ok (.getfield 18, 3) := by decide +kernel
theorem dX3_at_32 : decode cX3_at 32 = .ok (.iload 4, 2) := by decide +kernel
theorem dX3_at_34 : decode cX3_at 34 = .ok (.laload, 1) := by decide +kernel
theorem dX3_at_35 : decode cX3_at 35 = .ok (.ladd, 1) := by decide +kernel
theorem dX3_at_36 : decode cX3_at 36 = .ok (.lstore_n 2, 1) := by decide +kernel
theorem dX3_at_37 : decode cX3_at 37 = .ok (.iinc 4 1, 3) := by decide +kernel
theorem dX3_at_40 : decode cX3_at 40 = .ok (.goto (-35), 3) := by decide +kernel
theorem dX3_at_43 : decode cX3_at 43 = .ok (.lload_n 2, 1) := by decide +kernel
theorem dX3_at_44 : decode cX3_at 44 = .ok (.lreturn, 1) := by decide +kernel
theorem dX3_keep_0 : decode cX3_keep 0 = .ok (.aload_n 0, 1) := by decide +kernel
theorem dX3_keep_1 : decode cX3_keep 1 = .ok (.getfield 9, 3) := by decide +kernel
theorem dX3_keep_4 : decode cX3_keep 4 = .ok (.ifCond .lt 12, 3) := by decide +kernel
theorem dX3_keep_7 : decode cX3_keep 7 = .ok (.aload_n 0, 1) := by decide +kernel
theorem dX3_keep_8 : decode cX3_keep 8 = .ok (.getfield 9, 3) := by decide +kernel
theorem dX3_keep_11 : decode cX3_keep 11 = .ok (.bipush 8, 2) := by decide +kernel
theorem dX3_keep_13 : decode cX3_keep 13 = .ok (.if_icmp .lt 4, 3) := by decide +kernel
theorem dX3_keep_16 : decode cX3_keep 16 = .ok (.return_, 1) := by decide +kernel
theorem dX3_keep_17 : decode cX3_keep 17 = .ok (.aload_n 0, 1) := by decide +kernel
theorem dX3_keep_18 : decode cX3_keep 18 = .ok (.getfield 9, 3) := by decide +kernel
theorem dX3_keep_21 : decode cX3_keep 21 = .ok (.ifCond .le 17, 3) := by decide +kernel
theorem dX3_keep_24 : decode cX3_keep 24 = .ok (.aload_n 0, 1) := by decide +kernel
theorem dX3_keep_25 : decode cX3_keep 25 = .ok (.getfield 26, 3) := by decide +kernel
theorem dX3_keep_28 : decode cX3_keep 28 = .ok (.aload_n 0, 1) := by decide +kernel
theorem dX3_keep_29 : decode cX3_keep 29 = .ok (.getfield 9, 3) := by decide +kernel
theorem dX3_keep_32 : decode cX3_keep 32 = .ok (.iconst 1, 1) := by decide +kernel
theorem dX3_keep_33 : decode cX3_keep 33 = .ok (.isub, 1) := by decide +kernel
theorem dX3_keep_34 : decode cX3_keep 34 = .ok (.laload, 1) := by decide +kernel
theorem dX3_keep_35 : decode cX3_keep 35 = .ok (.goto 4, 3) := by decide +kernel
theorem dX3_keep_38 : decode cX3_keep 38 = .ok (.lconst 1, 1) := by decide +kernel
theorem dX3_keep_39 : decode cX3_keep 39 = .ok (.lstore_n 2, 1) := by decide +kernel
theorem dX3_keep_40 : decode cX3_keep 40 = .ok (.aload_n 0, 1) := by decide +kernel
theorem dX3_keep_41 : decode cX3_keep 41 = .ok (.getfield 9, 3) := by decide +kernel
theorem dX3_keep_44 : decode cX3_keep 44 = .ok (.ifCond .le 17, 3) := by decide +kernel
theorem dX3_keep_47 : decode cX3_keep 47 = .ok (.aload_n 0, 1) := by decide +kernel
theorem dX3_keep_48 : decode cX3_keep 48 = .ok (.getfield 29, 3) := by decide +kernel
theorem dX3_keep_51 : decode cX3_keep 51 = .ok (.aload_n 0, 1) := by decide +kernel
theorem dX3_keep_52 : decode cX3_keep 52 = .ok (.getfield 9, 3) := by decide +kernel
theorem dX3_keep_55 : decode cX3_keep 55 = .ok (.iconst 1, 1) := by decide +kernel
theorem dX3_keep_56 : decode cX3_keep 56 = .ok (.isub, 1) := by decide +kernel
theorem dX3_keep_57 : decode cX3_keep 57 = .ok (.laload, 1) := by decide +kernel
theorem dX3_keep_58 : decode cX3_keep 58 = .ok (.goto 4, 3) := by decide +kernel
theorem dX3_keep_61 : decode cX3_keep 61 = .ok (.lconst 0, 1) := by decide +kernel
theorem dX3_keep_62 : decode cX3_keep 62 = .ok (.lstore 4, 2) := by decide +kernel
theorem dX3_keep_64 : decode cX3_keep 64 = .ok (.aload_n 0, 1) := by decide +kernel
theorem dX3_keep_65 : decode cX3_keep 65 = .ok (.getfield 9, 3) := by decide +kernel
theorem dX3_keep_68 : decode cX3_keep 68 = .ok (.iconst 1, 1) := by decide +kernel
theorem dX3_keep_69 : decode cX3_keep 69 = .ok (.if_icmp .le 17, 3) := by decide +kernel
theorem dX3_keep_72 : decode cX3_keep 72 = .ok (.aload_n 0, 1) := by decide +kernel
theorem dX3_keep_73 : decode cX3_keep 73 = .ok (.getfield 26, 3) := by decide +kernel
theorem dX3_keep_76 : decode cX3_keep 76 = .ok (.aload_n 0, 1) := by decide +kernel
theorem dX3_keep_77 : decode cX3_keep 77 = .ok (.getfield 9, 3) := by decide +kernel
theorem dX3_keep_80 : decode cX3_keep 80 = .ok (.iconst 2, 1) := by decide +kernel
theorem dX3_keep_81 : decode cX3_keep 81 = .ok (.isub, 1) := by decide +kernel
theorem dX3_keep_82 : decode cX3_keep 82 = .ok (.laload, 1) := by decide +kernel
theorem dX3_keep_83 : decode cX3_keep 83 = .ok (.goto 8, 3) := by decide +kernel
theorem dX3_keep_86 : decode cX3_keep 86 = .ok (.aload_n 0, 1) := by decide +kernel
theorem dX3_keep_87 : decode cX3_keep 87 = .ok (.getfield 9, 3) := by decide +kernel
theorem dX3_keep_90 : decode cX3_keep 90 = .ok (.i2l, 1) := by decide +kernel
theorem dX3_keep_91 : decode cX3_keep 91 = .ok (.lstore 6, 2) := by decide +kernel
theorem dX3_keep_93 : decode cX3_keep 93 = .ok (.aload_n 0, 1) := by decide +kernel
theorem dX3_keep_94 : decode cX3_keep 94 = .ok (.getfield 9, 3) := by decide +kernel
theorem dX3_keep_97 : decode cX3_keep 97 = .ok (.iconst 1, 1) := by decide +kernel
theorem dX3_keep_98 : decode cX3_keep 98 = .ok (.if_icmp .le 17, 3) := by decide +kernel
theorem dX3_keep_101 : decode cX3_keep 101 = .ok (.aload_n 0, 1) := by decide +kernel
theorem dX3_keep_102 : decode cX3_keep 102 = .ok (.getfield 29, 3) := by decide +kernel
theorem dX3_keep_105 : decode cX3_keep 105 = .ok (.aload_n 0, 1) := by decide +kernel
theorem dX3_keep_106 : decode cX3_keep 106 = .ok (.getfield 9, 3) := by decide +kernel
theorem dX3_keep_109 : decode cX3_keep 109 = .ok (.iconst 2, 1) := by decide +kernel
theorem dX3_keep_110 : decode cX3_keep 110 = .ok (.isub, 1) := by decide +kernel
theorem dX3_keep_111 : decode cX3_keep 111 = .ok (.laload, 1) := by decide +kernel
theorem dX3_keep_112 : decode cX3_keep 112 = .ok (.goto 10, 3) := by decide +kernel
theorem dX3_keep_115 : decode cX3_keep 115 = .ok (.iconst 1, 1) := by decide +kernel
theorem dX3_keep_116 : decode cX3_keep 116 = .ok (.aload_n 0, 1) := by decide +kernel
theorem dX3_keep_117 : decode cX3_keep 117 = .ok (.getfield 9, 3) := by decide +kernel
theorem dX3_keep_120 : decode cX3_keep 120 = .ok (.isub, 1) := by decide +kernel
theorem dX3_keep_121 : decode cX3_keep 121 = .ok (.i2l, 1) := by decide +kernel
theorem dX3_keep_122 : decode cX3_keep 122 = .ok (.lstore 8, 2) := by decide +kernel
theorem dX3_keep_124 : decode cX3_keep 124 = .ok (.aload_n 0, 1) := by decide +kernel
theorem dX3_keep_125 : decode cX3_keep 125 = .ok (.getfield 22, 3) := by decide +kernel
theorem dX3_keep_128 : decode cX3_keep 128 = .ok (.aload_n 0, 1) := by decide +kernel
theorem dX3_keep_129 : decode cX3_keep 129 = .ok (.getfield 9, 3) := by decide +kernel
theorem dX3_keep_132 : decode cX3_keep 132 = .ok (.iload_n 1, 1) := by decide +kernel
theorem dX3_keep_133 : decode cX3_keep 133 = .ok (.iastore, 1) := by decide +kernel
theorem dX3_keep_134 : decode cX3_keep 134 = .ok (.aload_n 0, 1) := by decide +kernel
theorem dX3_keep_135 : decode cX3_keep 135 = .ok (.getfield 26, 3) := by decide +kernel
theorem dX3_keep_138 : decode cX3_keep 138 = .ok (.aload_n 0, 1) := by decide +kernel
theorem dX3_keep_139 : decode cX3_keep 139 = .ok (.getfield 9, 3) := by decide +kernel
theorem dX3_keep_142 : decode cX3_keep 142 = .ok (.iload_n 1, 1) := by decide +kernel
theorem dX3_keep_143 : decode cX3_keep 143 = .ok (.i2l, 1) := by decide +kernel
theorem dX3_keep_144 : decode cX3_keep 144 = .ok (.lload_n 2, 1) := by decide +kernel
theorem dX3_keep_145 : decode cX3_keep 145 = .ok (.lmul, 1) := by decide +kernel
theorem dX3_keep_146 : decode cX3_keep 146 = .ok (.lload 6, 2) := by decide +kernel
theorem dX3_keep_148 : decode cX3_keep 148 = .ok (.ladd, 1) := by decide +kernel
theorem dX3_keep_149 : decode cX3_keep 149 = .ok (.lastore, 1) := by decide +kernel
theorem dX3_keep_150 : decode cX3_keep 150 = .ok (.aload_n 0, 1) := by decide +kernel
theorem dX3_keep_151 : decode cX3_keep 151 = .ok (.getfield 29, 3) := by decide +kernel
theorem dX3_keep_154 : decode cX3_keep 154 = .ok (.aload_n 0, 1) := by decide +kernel
theorem dX3_keep_155 : decode cX3_keep 155 = .ok (.getfield 9, 3) := by decide +kernel
theorem dX3_keep_158 : decode cX3_keep 158 = .ok (.iload_n 1, 1) := by decide +kernel
theorem dX3_keep_159 : decode cX3_keep 159 = .ok (.i2l, 1) := by decide +kernel
theorem dX3_keep_160 : decode cX3_keep 160 = .ok (.lload 4, 2) := by decide +kernel
theorem dX3_keep_162 : decode cX3_keep 162 = .ok (.lmul, 1) := by decide +kernel
theorem dX3_keep_163 : decode cX3_keep 163 = .ok (.lload 8, 2) := by decide +kernel
theorem dX3_keep_165 : decode cX3_keep 165 = .ok (.ladd, 1) := by decide +kernel
theorem dX3_keep_166 : decode cX3_keep 166 = .ok (.lastore, 1) := by decide +kernel
theorem dX3_keep_167 : decode cX3_keep 167 = .ok (.aload_n 0, 1) := by decide +kernel
theorem dX3_keep_168 : decode cX3_keep 168 = .ok (.dup, 1) := by decide +kernel
theorem dX3_keep_169 : decode cX3_keep 169 = .ok (.getfield 9, 3) := by decide +kernel
theorem dX3_keep_172 : decode cX3_keep 172 = .ok (.iconst 1, 1) := by decide +kernel
theorem dX3_keep_173 : decode cX3_keep 173 = .ok (.iadd, 1) := by decide +kernel
theorem dX3_keep_174 : decode cX3_keep 174 = .ok (.putfield 9, 3) := by decide +kernel
theorem dX3_keep_177 : decode cX3_keep 177 = .ok (.return_, 1) := by decide +kernel
theorem dX3_goBehind_0 : decode cX3_goBehind 0 = .ok (.aload_n 0, 1) := by decide +kernel
theorem dX3_goBehind_1 : decode cX3_goBehind 1 = .ok (.getfield 15, 3) := by decide +kernel
theorem dX3_goBehind_4 : decode cX3_goBehind 4 = .ok (.istore_n 2, 1) := by decide +kernel
theorem dX3_goBehind_5 : decode cX3_goBehind 5 = .ok (.iload_n 2, 1) := by decide +kernel
theorem dX3_goBehind_6 : decode cX3_goBehind 6 = .ok (.ifCond .le 51, 3) := by decide +kernel
theorem dX3_goBehind_9 : decode cX3_goBehind 9 = .ok (.iconst 1, 1) := by decide +kernel
theorem dX3_goBehind_10 : decode cX3_goBehind 10 = .ok (.istore_n 3, 1) := by decide +kernel
theorem dX3_goBehind_11 : decode cX3_goBehind 11 = .ok (.iload_n 3, 1) := by decide +kernel
theorem dX3_goBehind_12 : decode cX3_goBehind 12 = .ok (.iload_n 2, 1) := by decide +kernel
theorem dX3_goBehind_13 : decode cX3_goBehind 13 = .ok (.if_icmp .gt 38, 3) := by decide +kernel
theorem dX3_goBehind_16 : decode cX3_goBehind 16 = .ok (.iload_n 3, 1) := by decide +kernel
theorem dX3_goBehind_17 : decode cX3_goBehind 17 = .ok (.aload_n 0, 1) := by decide +kernel
theorem dX3_goBehind_18 : decode cX3_goBehind 18 = .ok (.getfield 18, 3) := by decide +kernel
theorem dX3_goBehind_21 : decode cX3_goBehind 21 = .ok (.arraylength, 1) := by decide +kernel
theorem dX3_goBehind_22 : decode cX3_goBehind 22 = .ok (.if_icmp .ge 29, 3) := by decide +kernel
theorem dX3_goBehind_25 : decode cX3_goBehind 25 = .ok (.aload_n 0, 1) := by decide +kernel
theorem dX3_goBehind_26 : decode cX3_goBehind 26 = .ok (.getfield 18, 3) := by decide +kernel
theorem dX3_goBehind_29 : decode cX3_goBehind 29 = .ok (.iload_n 3, 1) := by decide +kernel
theorem dX3_goBehind_30 : decode cX3_goBehind 30 = .ok (.dup2, 1) := by decide +kernel
theorem dX3_goBehind_31 : decode cX3_goBehind 31 = .ok (.laload, 1) := by decide +kernel
theorem dX3_goBehind_32 : decode cX3_goBehind 32 = .ok (.iload_n 1, 1) := by decide +kernel
theorem dX3_goBehind_33 : decode cX3_goBehind 33 = .ok (.i2l, 1) := by decide +kernel
theorem dX3_goBehind_34 : decode cX3_goBehind 34 = .ok (.aload_n 0, 1) := by decide +kernel
theorem dX3_goBehind_35 : decode cX3_goBehind 35 = .ok (.getfield 18, 3) := by decide +kernel
theorem dX3_goBehind_38 : decode cX3_goBehind 38 = .ok (.iload_n 3, 1) := by decide +kernel
theorem dX3_goBehind_39 : decode cX3_goBehind 39 = .ok (.iconst 1, 1) := by decide +kernel
theorem dX3_goBehind_40 : decode cX3_goBehind 40 = .ok (.isub, 1) := by decide +kernel
theorem dX3_goBehind_41 : decode cX3_goBehind 41 = .ok (.laload, 1) := by decide +kernel
theorem dX3_goBehind_42 : decode cX3_goBehind 42 = .ok (.lmul, 1) := by decide +kernel
theorem dX3_goBehind_43 : decode cX3_goBehind 43 = .ok (.ladd, 1) := by decide +kernel
theorem dX3_goBehind_44 : decode cX3_goBehind 44 = .ok (.lastore, 1) := by decide +kernel
theorem dX3_goBehind_45 : decode cX3_goBehind 45 = .ok (.iinc 3 1, 3) := by decide +kernel
theorem dX3_goBehind_48 : decode cX3_goBehind 48 = .ok (.goto (-37), 3) := by decide +kernel
theorem dX3_goBehind_51 : decode cX3_goBehind 51 = .ok (.iinc 2 (-1), 3) := by decide +kernel
theorem dX3_goBehind_54 : decode cX3_goBehind 54 = .ok (.goto (-49), 3) := by decide +kernel
theorem dX3_goBehind_57 : decode cX3_goBehind 57 = .ok (.iconst 0, 1) := by decide +kernel
theorem dX3_goBehind_58 : decode cX3_goBehind 58 = .ok (.istore_n 2, 1) := by decide +kernel
theorem dX3_goBehind_59 : decode cX3_goBehind 59 = .ok (.aload_n 0, 1) := by decide +kernel
theorem dX3_goBehind_60 : decode cX3_goBehind 60 = .ok (.getfield 15, 3) := by decide +kernel
theorem dX3_goBehind_63 : decode cX3_goBehind 63 = .ok (.istore_n 3, 1) := by decide +kernel
theorem dX3_goBehind_64 : decode cX3_goBehind 64 = .ok (.iload_n 2, 1) := by decide +kernel
theorem dX3_goBehind_65 : decode cX3_goBehind 65 = .ok (.iload_n 3, 1) := by decide +kernel
theorem dX3_goBehind_66 : decode cX3_goBehind 66 = .ok (.if_icmp .ge 49, 3) := by decide +kernel
theorem dX3_goBehind_69 : decode cX3_goBehind 69 = .ok (.iload_n 3, 1) := by decide +kernel
theorem dX3_goBehind_70 : decode cX3_goBehind 70 = .ok (.aload_n 0, 1) := by decide +kernel
theorem dX3_goBehind_71 : decode cX3_goBehind 71 = .ok (.getfield 18, 3) := by decide +kernel
theorem dX3_goBehind_74 : decode cX3_goBehind 74 = .ok (.arraylength, 1) := by decide +kernel
theorem dX3_goBehind_75 : decode cX3_goBehind 75 = .ok (.if_icmp .ge 40, 3) := by decide +kernel
theorem dX3_goBehind_78 : decode cX3_goBehind 78 = .ok (.aload_n 0, 1) := by decide +kernel
theorem dX3_goBehind_79 : decode cX3_goBehind 79 = .ok (.getfield 18, 3) := by decide +kernel
theorem dX3_goBehind_82 : decode cX3_goBehind 82 = .ok (.iload_n 2, 1) := by decide +kernel
theorem dX3_goBehind_83 : decode cX3_goBehind 83 = .ok (.laload, 1) := by decide +kernel
theorem dX3_goBehind_84 : decode cX3_goBehind 84 = .ok (.lstore 4, 2) := by decide +kernel
theorem dX3_goBehind_86 : decode cX3_goBehind 86 = .ok (.aload_n 0, 1) := by decide +kernel
theorem dX3_goBehind_87 : decode cX3_goBehind 87 = .ok (.getfield 18, 3) := by decide +kernel
theorem dX3_goBehind_90 : decode cX3_goBehind 90 = .ok (.iload_n 2, 1) := by decide +kernel
theorem dX3_goBehind_91 : decode cX3_goBehind 91 = .ok (.aload_n 0, 1) := by decide +kernel
theorem dX3_goBehind_92 : decode cX3_goBehind 92 = .ok (.getfield 18, 3) := by decide +kernel
theorem dX3_goBehind_95 : decode cX3_goBehind 95 = .ok (.iload_n 3, 1) := by decide +kernel
theorem dX3_goBehind_96 : decode cX3_goBehind 96 = .ok (.laload, 1) := by decide +kernel
theorem dX3_goBehind_97 : decode cX3_goBehind 97 = .ok (.lastore, 1) := by decide +kernel
theorem dX3_goBehind_98 : decode cX3_goBehind 98 = .ok (.aload_n 0, 1) := by decide +kernel
theorem dX3_goBehind_99 : decode cX3_goBehind 99 = .ok (.getfield 18, 3) := by decide +kernel
theorem dX3_goBehind_102 : decode cX3_goBehind 102 = .ok (.iload_n 3, 1) := by decide +kernel
theorem dX3_goBehind_103 : decode cX3_goBehind 103 = .ok (.lload 4, 2) := by decide +kernel
theorem dX3_goBehind_105 : decode cX3_goBehind 105 = .ok (.lastore, 1) := by decide +kernel
theorem dX3_goBehind_106 : decode cX3_goBehind 106 = .ok (.iinc 2 1, 3) := by decide +kernel
theorem dX3_goBehind_109 : decode cX3_goBehind 109 = .ok (.iinc 3 (-1), 3) := by decide +kernel
theorem dX3_goBehind_112 : decode cX3_goBehind 112 = .ok (.goto (-48), 3) := by decide +kernel
theorem dX3_goBehind_115 : decode cX3_goBehind 115 = .ok (.return_, 1) := by decide +kernel
theorem dX3_isRowBeyond_0 : decode cX3_isRowBeyond 0 = .ok (.iconst 0, 1) := by decide +kernel
theorem dX3_isRowBeyond_1 : decode cX3_isRowBeyond 1 = .ok (.istore_n 1, 1) := by decide +kernel
theorem dX3_isRowBeyond_2 : decode cX3_isRowBeyond 2 = .ok (.iload_n 1, 1) := by decide +kernel
theorem dX3_isRowBeyond_3 : decode cX3_isRowBeyond 3 = .ok (.aload_n 0, 1) := by decide +kernel
theorem dX3_isRowBeyond_4 : decode cX3_isRowBeyond 4 = .ok (.getfield 18, 3) := by decide +kernel
theorem dX3_isRowBeyond_7 : decode cX3_isRowBeyond 7 = .ok (.arraylength, 1) := by decide +kernel
theorem dX3_isRowBeyond_8 : decode cX3_isRowBeyond 8 = .ok (.if_icmp .ge 37, 3) := by decide +kernel
theorem dX3_isRowBeyond_11 : decode cX3_isRowBeyond 11 = .ok (.aload_n 0, 1) := by decide +kernel
theorem dX3_isRowBeyond_12 : decode cX3_isRowBeyond 12 = .ok (.getfield 18, 3) := by decide +kernel
theorem dX3_isRowBeyond_15 : decode cX3_isRowBeyond 15 = .ok (.iload_n 1, 1) := by decide +kernel
theorem dX3_isRowBeyond_16 : decode cX3_isRowBeyond 16 = .ok (.laload, 1) := by decide +kernel
theorem dX3_isRowBeyond_17 : decode cX3_isRowBeyond 17 = .ok (.ldc2_w 57, 3) := by decide +kernel
theorem dX3_isRowBeyond_20 : decode cX3_isRowBeyond 20 = .ok (.lcmp, 1) := by decide +kernel
theorem dX3_isRowBeyond_21 : decode cX3_isRowBeyond 21 = .ok (.ifCond .gt 16, 3) := by decide +kernel
theorem dX3_isRowBeyond_24 : decode cX3_isRowBeyond 24 = .ok (.aload_n 0, 1) := by decide +kernel
theorem dX3_isRowBeyond_25 : decode cX3_isRowBeyond 25 = .ok (.getfield 18, 3) := by decide +kernel
theorem dX3_isRowBeyond_28 : decode cX3_isRowBeyond 28 = .ok (.iload_n 1, 1) := by decide +kernel
theorem dX3_isRowBeyond_29 : decode cX3_isRowBeyond 29 = .ok (.laload, 1) := by decide +kernel
theorem dX3_isRowBeyond_30 : decode cX3_isRowBeyond 30 = .ok (.ldc2_w 59, 3) := by decide +kernel
theorem dX3_isRowBeyond_33 : decode cX3_isRowBeyond 33 = .ok (.lcmp, 1) := by decide +kernel
theorem dX3_isRowBeyond_34 : decode cX3_isRowBeyond 34 = .ok (.ifCond .ge 5, 3) := by decide +kernel
theorem dX3_isRowBeyond_37 : decode cX3_isRowBeyond 37 = .ok (.iconst 1, 1) := by decide +kernel
theorem dX3_isRowBeyond_38 : decode cX3_isRowBeyond 38 = .ok (.ireturn, 1) := by decide +kernel
theorem dX3_isRowBeyond_39 : decode cX3_isRowBeyond 39 = .ok (.iinc 1 1, 3) := by decide +kernel
theorem dX3_isRowBeyond_42 : decode cX3_isRowBeyond 42 = .ok (.goto (-40), 3) := by decide +kernel
theorem dX3_isRowBeyond_45 : decode cX3_isRowBeyond 45 = .ok (.iconst 0, 1) := by decide +kernel
theorem dX3_isRowBeyond_46 : decode cX3_isRowBeyond 46 = .ok (.ireturn, 1) := by decide +kernel
theorem dX4_init_0 : decode cX4_init 0 = .ok (.aload_n 0, 1) := by decide +kernel
theorem dX4_init_1 : decode cX4_init 1 = .ok (.invokespecial 3, 3) := by decide +kernel
theorem dX4_init_4 : decode cX4_init 4 = .ok (.aload_n 0, 1) := by decide +kernel
theorem dX4_init_5 : decode cX4_init 5 = .ok (.iconst 0, 1) := by decide +kernel
theorem dX4_init_6 : decode cX4_init 6 = .ok (.putfield 9, 3) := by decide +kernel
theorem dX4_init_9 : decode cX4_init 9 = .ok (.aload_n 0, 1) := by decide +kernel
theorem dX4_init_10 : decode cX4_init 10 = .ok (.iconst 0, 1) := by decide +kernel
theorem dX4_init_11 : decode cX4_init 11 = .ok (.iload_n 1, 1) := by decide +kernel
theorem dX4_init_12 : decode cX4_init 12 = .ok (.invokestatic 15, 3) := by decide +kernel
theorem dX4_init_15 : decode cX4_init 15 = .ok (.iconst 3, 1) := by decide +kernel
theorem dX4_init_16 : decode cX4_init 16 = .ok (.imul, 1) := by decide +kernel
theorem dX4_init_17 : decode cX4_init 17 = .ok (.newarray .int, 2) := by decide +kernel
theorem dX4_init_19 : decode cX4_init 19 = .ok (.putfield 21, 3) := by decide +kernel
theorem dX4_init_22 : decode cX4_init 22 = .ok (.return_, 1) := by decide +kernel
theorem dX4_empty_0 : decode cX4_empty 0 = .ok (.aload_n 0, 1) := by decide +kernel
theorem dX4_empty_1 : decode cX4_empty 1 = .ok (.iconst 0, 1) := by decide +kernel
theorem dX4_empty_2 : decode cX4_empty 2 = .ok (.putfield 9, 3) := by decide +kernel
theorem dX4_empty_5 : decode cX4_empty 5 = .ok (.iconst 0, 1) := by decide +kernel
theorem dX4_empty_6 : decode cX4_empty 6 = .ok (.ireturn, 1) := by decide +kernel
theorem dX4_add_0 : decode cX4_add 0 = .ok (.aload_n 0, 1) := by decide +kernel
theorem dX4_add_1 : decode cX4_add 1 = .ok (.getfield 9, 3) := by decide +kernel
theorem dX4_add_4 : decode cX4_add 4 = .ok (.iconst 3, 1) := by decide +kernel
theorem dX4_add_5 : decode cX4_add 5 = .ok (.imul, 1) := by decide +kernel
theorem dX4_add_6 : decode cX4_add 6 = .ok (.istore 4, 2) := by decide +kernel
theorem dX4_add_8 : decode cX4_add 8 = .ok (.iload 4, 2) := by decide +kernel
theorem dX4_add_10 : decode cX4_add 10 = .ok (.ifCond .lt 15, 3) := by decide +kernel
theorem dX4_add_13 : decode cX4_add 13 = .ok (.iload 4, 2) := by decide +kernel
theorem dX4_add_15 : decode cX4_add 15 = .ok (.iconst 2, 1) := by decide +kernel
theorem dX4_add_16 : decode cX4_add 16 = .ok (.iadd, 1) := by decide +kernel
theorem dX4_add_17 : decode cX4_add 17 = .ok (.aload_n 0, 1) := by decide +kernel
theorem dX4_add_18 : decode cX4_add 18 = .ok (.getfield 21, 3) := by decide +kernel
theorem dX4_add_21 : decode cX4_add 21 = .ok (.arraylength, 1) := by decide +kernel
theorem dX4_add_22 : decode cX4_add 22 = .ok (.if_icmp .lt 6, 3) := by decide +kernel
theorem dX4_add_25 : decode cX4_add 25 = .ok (.bipush (-4), 2) := by decide +kernel
theorem dX4_add_27 : decode cX4_add 27 = .ok (.ireturn, 1) := by decide +kernel
theorem dX4_add_28 : decode cX4_add 28 = .ok (.aload_n 0, 1) := by decide +kernel
theorem dX4_add_29 : decode cX4_add 29 = .ok (.getfield 21, 3) := by decide +kernel
theorem dX4_add_32 : decode cX4_add 32 = .ok (.iload 4, 2) := by decide +kernel
theorem dX4_add_34 : decode cX4_add 34 = .ok (.iload_n 1, 1) := by decide +kernel
theorem dX4_add_35 : decode cX4_add 35 = .ok (.iastore, 1) := by decide +kernel
theorem dX4_add_36 : decode cX4_add 36 = .ok (.aload_n 0, 1) := by decide +kernel
theorem dX4_add_37 : decode cX4_add 37 = .ok (.getfield 21, 3) := by decide +kernel
theorem dX4_add_40 : decode cX4_add 40 = .ok (.iload 4, 2) := by decide +kernel
theorem dX4_add_42 : decode cX4_add 42 = .ok (.iconst 1, 1) := by decide +kernel
theorem dX4_add_43 : decode cX4_add 43 = .ok (.iadd, 1) := by decide +kernel
theorem dX4_add_44 : decode cX4_add 44 = .ok (.iload_n 2, 1) := by decide +kernel
theorem dX4_add_45 : decode cX4_add 45 = .ok (.iastore, 1) := by decide +kernel
theorem dX4_add_46 : decode cX4_add 46 = .ok (.aload_n 0, 1) := by decide +kernel
theorem dX4_add_47 : decode cX4_add 47 = .ok (.getfield 21, 3) := by decide +kernel
theorem dX4_add_50 : decode cX4_add 50 = .ok (.iload 4, 2) := by decide +kernel
theorem dX4_add_52 : decode cX4_add 52 = .ok (.iconst 2, 1) := by decide +kernel
theorem dX4_add_53 : decode cX4_add 53 = .ok (.iadd, 1) := by decide +kernel
theorem dX4_add_54 : decode cX4_add 54 = .ok (.iload_n 3, 1) := by decide +kernel
theorem dX4_add_55 : decode cX4_add 55 = .ok (.iastore, 1) := by decide +kernel
theorem dX4_add_56 : decode cX4_add 56 = .ok (.aload_n 0, 1) := by decide +kernel
theorem dX4_add_57 : decode cX4_add 57 = .ok (.dup, 1) := by decide +kernel
theorem dX4_add_58 : decode cX4_add 58 = .ok (.getfield 9, 3) := by decide +kernel
theorem dX4_add_61 : decode cX4_add 61 = .ok (.iconst 1, 1) := by decide +kernel
theorem dX4_add_62 : decode cX4_add 62 = .ok (.iadd, 1) := by decide +kernel
theorem dX4_add_63 : decode cX4_add 63 = .ok (.putfield 9, 3) := by decide +kernel
theorem dX4_add_66 : decode cX4_add 66 = .ok (.aload_n 0, 1) := by decide +kernel
theorem dX4_add_67 : decode cX4_add 67 = .ok (.getfield 9, 3) := by decide +kernel
theorem dX4_add_70 : decode cX4_add 70 = .ok (.ireturn, 1) := by decide +kernel
theorem dX4_copy_0 : decode cX4_copy 0 = .ok (.aload_n 0, 1) := by decide +kernel
theorem dX4_copy_1 : decode cX4_copy 1 = .ok (.aload_n 1, 1) := by decide +kernel
theorem dX4_copy_2 : decode cX4_copy 2 = .ok (.getfield 9, 3) := by decide +kernel
theorem dX4_copy_5 : decode cX4_copy 5 = .ok (.putfield 9, 3) := by decide +kernel
theorem dX4_copy_8 : decode cX4_copy 8 = .ok (.aload_n 1, 1) := by decide +kernel
theorem dX4_copy_9 : decode cX4_copy 9 = .ok (.getfield 21, 3) := by decide +kernel
theorem dX4_copy_12 : decode cX4_copy 12 = .ok (.iconst 0, 1) := by decide +kernel
theorem dX4_copy_13 : decode cX4_copy 13 = .ok (.aload_n 0, 1) := by decide +kernel
theorem dX4_copy_14 : decode cX4_copy 14 = .ok (.getfield 21, 3) := by decide +kernel
theorem dX4_copy_17 : decode cX4_copy 17 = .ok (.iconst 0, 1) := by decide +kernel
theorem dX4_copy_18 : decode cX4_copy 18 = .ok (.aload_n 0, 1) := by decide +kernel
theorem dX4_copy_19 : decode cX4_copy 19 = .ok (.getfield 21, 3) := by decide +kernel
theorem dX4_copy_22 : decode cX4_copy 22 = .ok (.arraylength, 1) := by decide +kernel
theorem dX4_copy_23 : decode cX4_copy 23 = .ok (.aload_n 1, 1) := by decide +kernel
theorem dX4_copy_24 : decode cX4_copy 24 = .ok (.getfield 21, 3) := by decide +kernel
theorem dX4_copy_27 : decode cX4_copy 27 = .ok (.arraylength, 1) := by decide +kernel
theorem dX4_copy_28 : decode cX4_copy 28 = .ok (.invokestatic 25, 3) := by decide +kernel
theorem dX4_copy_31 : decode cX4_copy 31 = .ok (.invokestatic 28, 3) := by decide +kernel
theorem dX4_copy_34 : decode cX4_copy 34 = .ok (.return_, 1) := by decide +kernel
theorem dX4_first_0 : decode cX4_first 0 = .ok (.aload_n 0, 1) := by decide +kernel
theorem dX4_first_1 : decode cX4_first 1 = .ok (.iload_n 1, 1) := by decide +kernel
theorem dX4_first_2 : decode cX4_first 2 = .ok (.iconst 0, 1) := by decide +kernel
theorem dX4_first_3 : decode cX4_first 3 = .ok (.invokevirtual 34, 3) := by decide +kernel
theorem dX4_first_6 : decode cX4_first 6 = .ok (.ireturn, 1) := by decide +kernel
theorem dX4_second_0 : decode cX4_second 0 = .ok (.aload_n 0, 1) := by decide +kernel
theorem dX4_second_1 : decode cX4_second 1 = .ok (.iload_n 1, 1) := by decide +kernel
theorem dX4_second_2 : decode cX4_second 2 = .ok (.iconst 1, 1) := by decide +kernel
theorem dX4_second_3 : decode cX4_second 3 = .ok (.invokevirtual 34, 3) := by decide +kernel
theorem dX4_second_6 : decode cX4_second 6 = .ok (.ireturn, 1) := by decide +kernel
theorem dX4_third_0 : decode cX4_third 0 = .ok (.aload_n 0, 1) := by decide +kernel
theorem dX4_third_1 : decode cX4_third 1 = .ok (.iload_n 1, 1) := by decide +kernel
theorem dX4_third_2 : decode cX4_third 2 = .ok (.iconst 2, 1) := by decide +kernel
theorem dX4_third_3 : decode cX4_third 3 = .ok (.invokevirtual 34, 3) := by decide +kernel
theorem dX4_third_6 : decode cX4_third 6 = .ok (.ireturn, 1) := by decide +kernel
theorem dX4_cell_0 : decode cX4_cell 0 = .ok (.iload_n 1, 1) := by decide +kernel
theorem dX4_cell_1 : decode cX4_cell 1 = .ok (.iconst 3, 1) := by decide +kernel
theorem dX4_cell_2 : decode cX4_cell 2 = .ok (.imul, 1) := by decide +kernel
theorem dX4_cell_3 : decode cX4_cell 3 = .ok (.iload_n 2, 1) := by decide +kernel
theorem dX4_cell_4 : decode cX4_cell 4 = .ok (.iadd, 1) := by decide +kernel
theorem dX4_cell_5 : decode cX4_cell 5 = .ok (.istore_n 3, 1) := by decide +kernel
theorem dX4_cell_6 : decode cX4_cell 6 = .ok (.iload_n 1, 1) := by decide +kernel
theorem dX4_cell_7 : decode cX4_cell 7 = .ok (.ifCond .lt 29, 3) := by decide +kernel
theorem dX4_cell_10 : decode cX4_cell 10 = .ok (.iload_n 1, 1) := by decide +kernel
theorem dX4_cell_11 : decode cX4_cell 11 = .ok (.aload_n 0, 1) := by decide +kernel
theorem dX4_cell_12 : decode cX4_cell 12 = .ok (.getfield 9, 3) := by decide +kernel
theorem dX4_cell_15 : decode cX4_cell 15 = .ok (.if_icmp .ge 21, 3) := by decide +kernel
theorem dX4_cell_18 : decode cX4_cell 18 = .ok (.iload_n 3, 1) := by decide +kernel
theorem dX4_cell_19 : decode cX4_cell 19 = .ok (.aload_n 0, 1) := by decide +kernel
theorem dX4_cell_20 : decode cX4_cell 20 = .ok (.getfield 21, 3) := by decide +kernel
theorem dX4_cell_23 : decode cX4_cell 23 = .ok (.arraylength, 1) := by decide +kernel
theorem dX4_cell_24 : decode cX4_cell 24 = .ok (.if_icmp .ge 12, 3) := by decide +kernel
theorem dX4_cell_27 : decode cX4_cell 27 = .ok (.aload_n 0, 1) := by decide +kernel
theorem dX4_cell_28 : decode cX4_cell 28 = .ok (.getfield 21, 3) := by decide +kernel
theorem dX4_cell_31 : decode cX4_cell 31 = .ok (.iload_n 3, 1) := by decide +kernel
theorem dX4_cell_32 : decode cX4_cell 32 = .ok (.iaload, 1) := by decide +kernel
theorem dX4_cell_33 : decode cX4_cell 33 = .ok (.goto 4, 3) := by decide +kernel
theorem dX4_cell_36 : decode cX4_cell 36 = .ok (.iconst 0, 1) := by decide +kernel
theorem dX4_cell_37 : decode cX4_cell 37 = .ok (.ireturn, 1) := by decide +kernel
theorem dX5_init_0 : decode cX5_init 0 = .ok (.aload_n 0, 1) := by decide +kernel
theorem dX5_init_1 : decode cX5_init 1 = .ok (.invokespecial 1, 3) := by decide +kernel
theorem dX5_init_4 : decode cX5_init 4 = .ok (.aload_n 0, 1) := by decide +kernel
theorem dX5_init_5 : decode cX5_init 5 = .ok (.iconst 0, 1) := by decide +kernel
theorem dX5_init_6 : decode cX5_init 6 = .ok (.putfield 7, 3) := by decide +kernel
theorem dX5_init_9 : decode cX5_init 9 = .ok (.aload_n 0, 1) := by decide +kernel
theorem dX5_init_10 : decode cX5_init 10 = .ok (.new 13, 3) := by decide +kernel
theorem dX5_init_13 : decode cX5_init 13 = .ok (.dup, 1) := by decide +kernel
theorem dX5_init_14 : decode cX5_init 14 = .ok (.bipush 12, 2) := by decide +kernel
theorem dX5_init_16 : decode cX5_init 16 = .ok (.invokespecial 15, 3) := by decide +kernel
theorem dX5_init_19 : decode cX5_init 19 = .ok (.putfield 18, 3) := by decide +kernel
theorem dX5_init_22 : decode cX5_init 22 = .ok (.aload_n 0, 1) := by decide +kernel
theorem dX5_init_23 : decode cX5_init 23 = .ok (.bipush 100, 2) := by decide +kernel
theorem dX5_init_25 : decode cX5_init 25 = .ok (.newarray .int, 2) := by decide +kernel
theorem dX5_init_27 : decode cX5_init 27 = .ok (.putfield 22, 3) := by decide +kernel
theorem dX5_init_30 : decode cX5_init 30 = .ok (.aload_n 0, 1) := by decide +kernel
theorem dX5_init_31 : decode cX5_init 31 = .ok (.iconst 0, 1) := by decide +kernel
theorem dX5_init_32 : decode cX5_init 32 = .ok (.putfield 26, 3) := by decide +kernel
theorem dX5_init_35 : decode cX5_init 35 = .ok (.aload_n 0, 1) := by decide +kernel
theorem dX5_init_36 : decode cX5_init 36 = .ok (.iconst 0, 1) := by decide +kernel
theorem dX5_init_37 : decode cX5_init 37 = .ok (.putfield 29, 3) := by decide +kernel
theorem dX5_init_40 : decode cX5_init 40 = .ok (.aload_n 0, 1) := by decide +kernel
theorem dX5_init_41 : decode cX5_init 41 = .ok (.iconst 0, 1) := by decide +kernel
theorem dX5_init_42 : decode cX5_init 42 = .ok (.putfield 32, 3) := by decide +kernel
theorem dX5_init_45 : decode cX5_init 45 = .ok (.return_, 1) := by decide +kernel
theorem dX5_add_0 : decode cX5_add 0 = .ok (.aload_n 0, 1) := by decide +kernel
theorem dX5_add_1 : decode cX5_add 1 = .ok (.getfield 7, 3) := by decide +kernel
theorem dX5_add_4 : decode cX5_add 4 = .ok (.ifCond .lt 15, 3) := by decide +kernel
theorem dX5_add_7 : decode cX5_add 7 = .ok (.aload_n 0, 1) := by decide +kernel
theorem dX5_add_8 : decode cX5_add 8 = .ok (.getfield 7, 3) := by decide +kernel
theorem dX5_add_11 : decode cX5_add 11 = .ok (.aload_n 0, 1) := by decide +kernel
theorem dX5_add_12 : decode cX5_add 12 = .ok (.getfield 22, 3) := by decide +kernel
theorem dX5_add_15 : decode cX5_add 15 = .ok (.arraylength, 1) := by decide +kernel
theorem dX5_add_16 : decode cX5_add 16 = .ok (.if_icmp .lt 5, 3) := by decide +kernel
theorem dX5_add_19 : decode cX5_add 19 = .ok (.iconst 0, 1) := by decide +kernel
theorem dX5_add_20 : decode cX5_add 20 = .ok (.ireturn, 1) := by decide +kernel
theorem dX5_add_21 : decode cX5_add 21 = .ok (.aload_n 0, 1) := by decide +kernel
theorem dX5_add_22 : decode cX5_add 22 = .ok (.getfield 22, 3) := by decide +kernel
theorem dX5_add_25 : decode cX5_add 25 = .ok (.aload_n 0, 1) := by decide +kernel
theorem dX5_add_26 : decode cX5_add 26 = .ok (.getfield 7, 3) := by decide +kernel
theorem dX5_add_29 : decode cX5_add 29 = .ok (.iload_n 1, 1) := by decide +kernel
theorem dX5_add_30 : decode cX5_add 30 = .ok (.iastore, 1) := by decide +kernel
theorem dX5_add_31 : decode cX5_add 31 = .ok (.aload_n 0, 1) := by decide +kernel
theorem dX5_add_32 : decode cX5_add 32 = .ok (.dup, 1) := by decide +kernel
theorem dX5_add_33 : decode cX5_add 33 = .ok (.getfield 7, 3) := by decide +kernel
theorem dX5_add_36 : decode cX5_add 36 = .ok (.iconst 1, 1) := by decide +kernel
theorem dX5_add_37 : decode cX5_add 37 = .ok (.iadd, 1) := by decide +kernel
theorem dX5_add_38 : decode cX5_add 38 = .ok (.putfield 7, 3) := by decide +kernel
theorem dX5_add_41 : decode cX5_add 41 = .ok (.iconst 1, 1) := by decide +kernel
theorem dX5_add_42 : decode cX5_add 42 = .ok (.ireturn, 1) := by decide +kernel
theorem dX5_findFault_0 : decode cX5_findFault 0 = .ok (.aload_n 0, 1) := by decide +kernel
theorem dX5_findFault_1 : decode cX5_findFault 1 = .ok (.getfield 18, 3) := by decide +kernel
theorem dX5_findFault_4 : decode cX5_findFault 4 = .ok (.invokevirtual 35, 3) := by decide +kernel
theorem dX5_findFault_7 : decode cX5_findFault 7 = .ok (.pop, 1) := by decide +kernel
theorem dX5_findFault_8 : decode cX5_findFault 8 = .ok (.aload_n 0, 1) := by decide +kernel
theorem dX5_findFault_9 : decode cX5_findFault 9 = .ok (.iconst 0, 1) := by decide +kernel
theorem dX5_findFault_10 : decode cX5_findFault 10 = .ok (.putfield 26, 3) := by decide +kernel
theorem dX5_findFault_13 : decode cX5_findFault 13 = .ok (.iconst 0, 1) := by decide +kernel
theorem dX5_findFault_14 : decode cX5_findFault 14 = .ok (.istore_n 1, 1) := by decide +kernel
theorem dX5_findFault_15 : decode cX5_findFault 15 = .ok (.iload_n 1, 1) := by decide +kernel
theorem dX5_findFault_16 : decode cX5_findFault 16 = .ok (.bipush 12, 2) := by decide +kernel
theorem dX5_findFault_18 : decode cX5_findFault 18 = .ok (.if_icmp .ge 61, 3) := by decide +kernel
theorem dX5_findFault_21 : decode cX5_findFault 21 = .ok (.aload_n 0, 1) := by decide +kernel
theorem dX5_findFault_22 : decode cX5_findFault 22 = .ok (.invokevirtual 39, 3) := by decide +kernel
theorem dX5_findFault_25 : decode cX5_findFault 25 = .ok (.ifCond .ne 8, 3) := by decide +kernel
theorem dX5_findFault_28 : decode cX5_findFault 28 = .ok (.aload_n 0, 1) := by decide +kernel
theorem dX5_findFault_29 : decode cX5_findFault 29 = .ok (.getfield 26, 3) := by decide +kernel
theorem dX5_findFault_32 : decode cX5_findFault 32 = .ok (.ireturn, 1) := by decide +kernel
theorem dX5_findFault_33 : decode cX5_findFault 33 = .ok (.aload_n 0, 1) := by decide +kernel
theorem dX5_findFault_34 : decode cX5_findFault 34 = .ok (.invokevirtual 43, 3) := by decide +kernel
theorem dX5_findFault_37 : decode cX5_findFault 37 = .ok (.iconst (-1), 1) := by decide +kernel
theorem dX5_findFault_38 : decode cX5_findFault 38 = .ok (.if_icmp .ne 5, 3) := by decide +kernel
theorem dX5_findFault_41 : decode cX5_findFault 41 = .ok (.iconst (-1), 1) := by decide +kernel
theorem dX5_findFault_42 : decode cX5_findFault 42 = .ok (.ireturn, 1) := by decide +kernel
theorem dX5_findFault_43 : decode cX5_findFault 43 = .ok (.aload_n 0, 1) := by decide +kernel
theorem dX5_findFault_44 : decode cX5_findFault 44 = .ok (.invokevirtual 43, 3) := by decide +kernel
theorem dX5_findFault_47 : decode cX5_findFault 47 = .ok (.bipush 59, 2) := by decide +kernel
theorem dX5_findFault_49 : decode cX5_findFault 49 = .ok (.if_icmp .ne 9, 3) := by decide +kernel
theorem dX5_findFault_52 : decode cX5_findFault 52 = .ok (.iload_n 1, 1) := by decide +kernel
theorem dX5_findFault_53 : decode cX5_findFault 53 = .ok (.bipush 11, 2) := by decide +kernel
theorem dX5_findFault_55 : decode cX5_findFault 55 = .ok (.if_icmp .ne 8, 3) := by decide +kernel
theorem dX5_findFault_58 : decode cX5_findFault 58 = .ok (.aload_n 0, 1) := by decide +kernel
theorem dX5_findFault_59 : decode cX5_findFault 59 = .ok (.getfield 26, 3) := by decide +kernel
theorem dX5_findFault_62 : decode cX5_findFault 62 = .ok (.ireturn, 1) := by decide +kernel
theorem dX5_findFault_63 : decode cX5_findFault 63 = .ok (.aload_n 0, 1) := by decide +kernel
theorem dX5_findFault_64 : decode cX5_findFault 64 = .ok (.dup, 1) := by decide +kernel
theorem dX5_findFault_65 : decode cX5_findFault 65 = .ok (.getfield 26, 3) := by decide +kernel
theorem dX5_findFault_68 : decode cX5_findFault 68 = .ok (.iconst 1, 1) := by decide +kernel
theorem dX5_findFault_69 : decode cX5_findFault 69 = .ok (.iadd, 1) := by decide +kernel
theorem dX5_findFault_70 : decode cX5_findFault 70 = .ok (.putfield 26, 3) := by decide +kernel
theorem dX5_findFault_73 : decode cX5_findFault 73 = .ok (.iinc 1 1, 3) := by decide +kernel
theorem dX5_findFault_76 : decode cX5_findFault 76 = .ok (.goto (-61), 3) := by decide +kernel
theorem dX5_findFault_79 : decode cX5_findFault 79 = .ok (.aload_n 0, 1) := by decide +kernel
theorem dX5_findFault_80 : decode cX5_findFault 80 = .ok (.getfield 26, 3) := by decide +kernel
theorem dX5_findFault_83 : decode cX5_findFault 83 = .ok (.ireturn, 1) := by decide +kernel
theorem dX5_next_0 : decode cX5_next 0 = .ok (.aload_n 0, 1) := by decide +kernel
theorem dX5_next_1 : decode cX5_next 1 = .ok (.getfield 26, 3) := by decide +kernel
theorem dX5_next_4 : decode cX5_next 4 = .ok (.ifCond .lt 38, 3) := by decide +kernel
theorem dX5_next_7 : decode cX5_next 7 = .ok (.aload_n 0, 1) := by decide +kernel
theorem dX5_next_8 : decode cX5_next 8 = .ok (.getfield 26, 3) := by decide +kernel
theorem dX5_next_11 : decode cX5_next 11 = .ok (.aload_n 0, 1) := by decide +kernel
theorem dX5_next_12 : decode cX5_next 12 = .ok (.getfield 7, 3) := by decide +kernel
theorem dX5_next_15 : decode cX5_next 15 = .ok (.if_icmp .ge 27, 3) := by decide +kernel
theorem dX5_next_18 : decode cX5_next 18 = .ok (.aload_n 0, 1) := by decide +kernel
theorem dX5_next_19 : decode cX5_next 19 = .ok (.getfield 26, 3) := by decide +kernel
theorem dX5_next_22 : decode cX5_next 22 = .ok (.aload_n 0, 1) := by decide +kernel
theorem dX5_next_23 : decode cX5_next 23 = .ok (.getfield 22, 3) := by decide +kernel
theorem dX5_next_26 : decode cX5_next 26 = .ok (.arraylength, 1) := by decide +kernel
theorem dX5_next_27 : decode cX5_next 27 = .ok (.if_icmp .ge 15, 3) := by decide +kernel
theorem dX5_next_30 : decode cX5_next 30 = .ok (.aload_n 0, 1) := by decide +kernel
theorem dX5_next_31 : decode cX5_next 31 = .ok (.getfield 22, 3) := by decide +kernel
theorem dX5_next_34 : decode cX5_next 34 = .ok (.aload_n 0, 1) := by decide +kernel
theorem dX5_next_35 : decode cX5_next 35 = .ok (.getfield 26, 3) := by decide +kernel
theorem dX5_next_38 : decode cX5_next 38 = .ok (.iaload, 1) := by decide +kernel
theorem dX5_next_39 : decode cX5_next 39 = .ok (.goto 4, 3) := by decide +kernel
theorem dX5_next_42 : decode cX5_next 42 = .ok (.iconst (-1), 1) := by decide +kernel
theorem dX5_next_43 : decode cX5_next 43 = .ok (.ireturn, 1) := by decide +kernel
theorem dX5_takeClause_0 : decode cX5_takeClause 0 = .ok (.aload_n 0, 1) := by decide +kernel
theorem dX5_takeClause_1 : decode cX5_takeClause 1 = .ok (.invokevirtual 43, 3) := by decide +kernel
theorem dX5_takeClause_4 : decode cX5_takeClause 4 = .ok (.istore_n 1, 1) := by decide +kernel
theorem dX5_takeClause_5 : decode cX5_takeClause 5 = .ok (.aload_n 0, 1) := by decide +kernel
theorem dX5_takeClause_6 : decode cX5_takeClause 6 = .ok (.iconst 0, 1) := by decide +kernel
theorem dX5_takeClause_7 : decode cX5_takeClause 7 = .ok (.putfield 29, 3) := by decide +kernel
theorem dX5_takeClause_10 : decode cX5_takeClause 10 = .ok (.aload_n 0, 1) := by decide +kernel
theorem dX5_takeClause_11 : decode cX5_takeClause 11 = .ok (.iconst 0, 1) := by decide +kernel
theorem dX5_takeClause_12 : decode cX5_takeClause 12 = .ok (.putfield 32, 3) := by decide +kernel
theorem dX5_takeClause_15 : decode cX5_takeClause 15 = .ok (.iload_n 1, 1) := by decide +kernel
theorem dX5_takeClause_16 : decode cX5_takeClause 16 = .ok (.invokestatic 46, 3) := by decide +kernel
theorem dX5_takeClause_19 : decode cX5_takeClause 19 = .ok (.ifCond .ne 5, 3) := by decide +kernel
theorem dX5_takeClause_22 : decode cX5_takeClause 22 = .ok (.iconst 0, 1) := by decide +kernel
theorem dX5_takeClause_23 : decode cX5_takeClause 23 = .ok (.ireturn, 1) := by decide +kernel
theorem dX5_takeClause_24 : decode cX5_takeClause 24 = .ok (.aload_n 0, 1) := by decide +kernel
theorem dX5_takeClause_25 : decode cX5_takeClause 25 = .ok (.dup, 1) := by decide +kernel
theorem dX5_takeClause_26 : decode cX5_takeClause 26 = .ok (.getfield 26, 3) := by decide +kernel
theorem dX5_takeClause_29 : decode cX5_takeClause 29 = .ok (.iconst 1, 1) := by decide +kernel
theorem dX5_takeClause_30 : decode cX5_takeClause 30 = .ok (.iadd, 1) := by decide +kernel
theorem dX5_takeClause_31 : decode cX5_takeClause 31 = .ok (.putfield 26, 3) := by decide +kernel
theorem dX5_takeClause_34 : decode cX5_takeClause 34 = .ok (.iload_n 1, 1) := by decide +kernel
theorem dX5_takeClause_35 : decode cX5_takeClause 35 = .ok (.invokestatic 50, 3) := by decide +kernel
theorem dX5_takeClause_38 : decode cX5_takeClause 38 = .ok (.ifCond .eq 12, 3) := by decide +kernel
theorem dX5_takeClause_41 : decode cX5_takeClause 41 = .ok (.aload_n 0, 1) := by decide +kernel
theorem dX5_takeClause_42 : decode cX5_takeClause 42 = .ok (.invokevirtual 53, 3) := by decide +kernel
theorem dX5_takeClause_45 : decode cX5_takeClause 45 = .ok (.ifCond .ne 5, 3) := by decide +kernel
theorem dX5_takeClause_48 : decode cX5_takeClause 48 = .ok (.iconst 0, 1) := by decide +kernel
theorem dX5_takeClause_49 : decode cX5_takeClause 49 = .ok (.ireturn, 1) := by decide +kernel
theorem dX5_takeClause_50 : decode cX5_takeClause 50 = .ok (.iload_n 1, 1) := by decide +kernel
theorem dX5_takeClause_51 : decode cX5_takeClause 51 = .ok (.invokestatic 56, 3) := by decide +kernel
theorem dX5_takeClause_54 : decode cX5_takeClause 54 = .ok (.ifCond .eq 12, 3) := by decide +kernel
theorem dX5_takeClause_57 : decode cX5_takeClause 57 = .ok (.aload_n 0, 1) := by decide +kernel
theorem dX5_takeClause_58 : decode cX5_takeClause 58 = .ok (.invokevirtual 59, 3) := by decide +kernel
theorem dX5_takeClause_61 : decode cX5_takeClause 61 = .ok (.ifCond .ne 5, 3) := by decide +kernel
theorem dX5_takeClause_64 : decode cX5_takeClause 64 = .ok (.iconst 0, 1) := by decide +kernel
theorem dX5_takeClause_65 : decode cX5_takeClause 65 = .ok (.ireturn, 1) := by decide +kernel
theorem dX5_takeClause_66 : decode cX5_takeClause 66 = .ok (.aload_n 0, 1) := by decide +kernel
theorem dX5_takeClause_67 : decode cX5_takeClause 67 = .ok (.getfield 18, 3) := by decide +kernel
theorem dX5_takeClause_70 : decode cX5_takeClause 70 = .ok (.iload_n 1, 1) := by decide +kernel
theorem dX5_takeClause_71 : decode cX5_takeClause 71 = .ok (.aload_n 0, 1) := by decide +kernel
theorem dX5_takeClause_72 : decode cX5_takeClause 72 = .ok (.getfield 29, 3) := by decide +kernel
theorem dX5_takeClause_75 : decode cX5_takeClause 75 = .ok (.aload_n 0, 1) := by decide +kernel
theorem dX5_takeClause_76 : decode cX5_takeClause 76 = .ok (.getfield 32, 3) := by decide +kernel
theorem dX5_takeClause_79 : decode cX5_takeClause 79 = .ok (.invokevirtual 62, 3) := by decide +kernel
theorem dX5_takeClause_82 : decode cX5_takeClause 82 = .ok (.pop, 1) := by decide +kernel
theorem dX5_takeClause_83 : decode cX5_takeClause 83 = .ok (.iconst 1, 1) := by decide +kernel
theorem dX5_takeClause_84 : decode cX5_takeClause 84 = .ok (.ireturn, 1) := by decide +kernel
theorem dX5_isKind_0 : decode cX5_isKind 0 = .ok (.iload_n 0, 1) := by decide +kernel
theorem dX5_isKind_1 : decode cX5_isKind 1 = .ok (.invokestatic 50, 3) := by decide +kernel
theorem dX5_isKind_4 : decode cX5_isKind 4 = .ok (.ifCond .ne 10, 3) := by decide +kernel
theorem dX5_isKind_7 : decode cX5_isKind 7 = .ok (.iload_n 0, 1) := by decide +kernel
theorem dX5_isKind_8 : decode cX5_isKind 8 = .ok (.invokestatic 56, 3) := by decide +kernel
theorem dX5_isKind_11 : decode cX5_isKind 11 = .ok (.ifCond .eq 7, 3) := by decide +kernel
theorem dX5_isKind_14 : decode cX5_isKind 14 = .ok (.iconst 1, 1) := by decide +kernel
theorem dX5_isKind_15 : decode cX5_isKind 15 = .ok (.goto 4, 3) := by decide +kernel
theorem dX5_isKind_18 : decode cX5_isKind 18 = .ok (.iconst 0, 1) := by decide +kernel
theorem dX5_isKind_19 : decode cX5_isKind 19 = .ok (.ireturn, 1) := by decide +kernel
theorem dX5_hasDigit_0 : decode cX5_hasDigit 0 = .ok (.iload_n 0, 1) := by decide +kernel
theorem dX5_hasDigit_1 : decode cX5_hasDigit 1 = .ok (.bipush 100, 2) := by decide +kernel
theorem dX5_hasDigit_3 : decode cX5_hasDigit 3 = .ok (.if_icmp .eq 15, 3) := by decide +kernel
theorem dX5_hasDigit_6 : decode cX5_hasDigit 6 = .ok (.iload_n 0, 1) := by decide +kernel
theorem dX5_hasDigit_7 : decode cX5_hasDigit 7 = .ok (.bipush 97, 2) := by decide +kernel
theorem dX5_hasDigit_9 : decode cX5_hasDigit 9 = .ok (.if_icmp .eq 9, 3) := by decide +kernel
theorem dX5_hasDigit_12 : decode cX5_hasDigit 12 = .ok (.iload_n 0, 1) := by decide +kernel
theorem dX5_hasDigit_13 : decode cX5_hasDigit 13 = .ok (.bipush 116, 2) := by decide +kernel
theorem dX5_hasDigit_15 : decode cX5_hasDigit 15 = .ok (.if_icmp .ne 7, 3) := by decide +kernel
theorem dX5_hasDigit_18 : decode cX5_hasDigit 18 = .ok (.iconst 1, 1) := by decide +kernel
theorem dX5_hasDigit_19 : decode cX5_hasDigit 19 = .ok (.goto 4, 3) := by decide +kernel
theorem dX5_hasDigit_22 : decode cX5_hasDigit 22 = .ok (.iconst 0, 1) := by decide +kernel
theorem dX5_hasDigit_23 : decode cX5_hasDigit 23 = .ok (.ireturn, 1) := by decide +kernel
theorem dX5_hasNumber_0 : decode cX5_hasNumber 0 = .ok (.iload_n 0, 1) := by decide +kernel
theorem dX5_hasNumber_1 : decode cX5_hasNumber 1 = .ok (.bipush 97, 2) := by decide +kernel
theorem dX5_hasNumber_3 : decode cX5_hasNumber 3 = .ok (.if_icmp .eq 15, 3) := by decide +kernel
theorem dX5_hasNumber_6 : decode cX5_hasNumber 6 = .ok (.iload_n 0, 1) := by decide +kernel
theorem dX5_hasNumber_7 : decode cX5_hasNumber 7 = .ok (.bipush 61, 2) := by decide +kernel
theorem dX5_hasNumber_9 : decode cX5_hasNumber 9 = .ok (.if_icmp .eq 9, 3) := by decide +kernel
theorem dX5_hasNumber_12 : decode cX5_hasNumber 12 = .ok (.iload_n 0, 1) := by decide +kernel
theorem dX5_hasNumber_13 : decode cX5_hasNumber 13 = .ok (.bipush 119, 2) := by decide +kernel
theorem dX5_hasNumber_15 : decode cX5_hasNumber 15 = .ok (.if_icmp .ne 7, 3) := by decide +kernel
theorem dX5_hasNumber_18 : decode cX5_hasNumber 18 = .ok (.iconst 1, 1) := by decide +kernel
theorem dX5_hasNumber_19 : decode cX5_hasNumber 19 = .ok (.goto 4, 3) := by decide +kernel
theorem dX5_hasNumber_22 : decode cX5_hasNumber 22 = .ok (.iconst 0, 1) := by decide +kernel
theorem dX5_hasNumber_23 : decode cX5_hasNumber 23 = .ok (.ireturn, 1) := by decide +kernel
theorem dX5_isAtDigit_0 : decode cX5_isAtDigit 0 = .ok (.aload_n 0, 1) := by decide +kernel
theorem dX5_isAtDigit_1 : decode cX5_isAtDigit 1 = .ok (.invokevirtual 43, 3) := by decide +kernel
theorem dX5_isAtDigit_4 : decode cX5_isAtDigit 4 = .ok (.bipush 48, 2) := by decide +kernel
theorem dX5_isAtDigit_6 : decode cX5_isAtDigit 6 = .ok (.if_icmp .lt 16, 3) := by decide +kernel
theorem dX5_isAtDigit_9 : decode cX5_isAtDigit 9 = .ok (.aload_n 0, 1) := by decide +kernel
theorem dX5_isAtDigit_10 : decode cX5_isAtDigit 10 = .ok (.invokevirtual 43, 3) := by decide +kernel
theorem dX5_isAtDigit_13 : decode cX5_isAtDigit 13 = .ok (.bipush 57, 2) := by decide +kernel
theorem dX5_isAtDigit_15 : decode cX5_isAtDigit 15 = .ok (.if_icmp .gt 7, 3) := by decide +kernel
theorem dX5_isAtDigit_18 : decode cX5_isAtDigit 18 = .ok (.iconst 1, 1) := by decide +kernel
theorem dX5_isAtDigit_19 : decode cX5_isAtDigit 19 = .ok (.goto 4, 3) := by decide +kernel
theorem dX5_isAtDigit_22 : decode cX5_isAtDigit 22 = .ok (.iconst 0, 1) := by decide +kernel
theorem dX5_isAtDigit_23 : decode cX5_isAtDigit 23 = .ok (.ireturn, 1) := by decide +kernel
theorem dX5_takeDigit_0 : decode cX5_takeDigit 0 = .ok (.aload_n 0, 1) := by decide +kernel
theorem dX5_takeDigit_1 : decode cX5_takeDigit 1 = .ok (.invokevirtual 66, 3) := by decide +kernel
theorem dX5_takeDigit_4 : decode cX5_takeDigit 4 = .ok (.ifCond .ne 5, 3) := by decide +kernel
theorem dX5_takeDigit_7 : decode cX5_takeDigit 7 = .ok (.iconst 0, 1) := by decide +kernel
theorem dX5_takeDigit_8 : decode cX5_takeDigit 8 = .ok (.ireturn, 1) := by decide +kernel
theorem dX5_takeDigit_9 : decode cX5_takeDigit 9 = .ok (.aload_n 0, 1) := by decide +kernel
theorem dX5_takeDigit_10 : decode cX5_takeDigit 10 = .ok (.aload_n 0, 1) := by decide +kernel
theorem dX5_takeDigit_11 : decode cX5_takeDigit 11 = .ok (.invokevirtual 43, 3) := by decide +kernel
theorem dX5_takeDigit_14 : decode cX5_takeDigit 14 = .ok (.bipush 48, 2) := by decide +kernel
theorem dX5_takeDigit_16 : decode cX5_takeDigit 16 = .ok (.isub, 1) := by decide +kernel
theorem dX5_takeDigit_17 : decode cX5_takeDigit 17 = .ok (.putfield 29, 3) := by decide +kernel
theorem dX5_takeDigit_20 : decode cX5_takeDigit 20 = .ok (.aload_n 0, 1) := by decide +kernel
theorem dX5_takeDigit_21 : decode cX5_takeDigit 21 = .ok (.dup, 1) := by decide +kernel
theorem dX5_takeDigit_22 : decode cX5_takeDigit 22 = .ok (.getfield 26, 3) := by decide +kernel
theorem dX5_takeDigit_25 : decode cX5_takeDigit 25 = .ok (.iconst 1, 1) := by decide +kernel
theorem dX5_takeDigit_26 : decode cX5_takeDigit 26 = .ok (.iadd, 1) := by decide +kernel
theorem dX5_takeDigit_27 : decode cX5_takeDigit 27 = .ok (.putfield 26, 3) := by decide +kernel
theorem dX5_takeDigit_30 : decode cX5_takeDigit 30 = .ok (.iconst 1, 1) := by decide +kernel
theorem dX5_takeDigit_31 : decode cX5_takeDigit 31 = .ok (.ireturn, 1) := by decide +kernel
theorem dX5_takeNumber_0 : decode cX5_takeNumber 0 = .ok (.aload_n 0, 1) := by decide +kernel
theorem dX5_takeNumber_1 : decode cX5_takeNumber 1 = .ok (.invokevirtual 43, 3) := by decide +kernel
theorem dX5_takeNumber_4 : decode cX5_takeNumber 4 = .ok (.bipush 45, 2) := by decide +kernel
theorem dX5_takeNumber_6 : decode cX5_takeNumber 6 = .ok (.if_icmp .ne 7, 3) := by decide +kernel
theorem dX5_takeNumber_9 : decode cX5_takeNumber 9 = .ok (.iconst 1, 1) := by decide +kernel
theorem dX5_takeNumber_10 : decode cX5_takeNumber 10 = .ok (.goto 4, 3) := by decide +kernel
theorem dX5_takeNumber_13 : decode cX5_takeNumber 13 = .ok (.iconst 0, 1) := by decide +kernel
theorem dX5_takeNumber_14 : decode cX5_takeNumber 14 = .ok (.istore_n 1, 1) := by decide +kernel
theorem dX5_takeNumber_15 : decode cX5_takeNumber 15 = .ok (.iload_n 1, 1) := by decide +kernel
theorem dX5_takeNumber_16 : decode cX5_takeNumber 16 = .ok (.ifCond .eq 13, 3) := by decide +kernel
theorem dX5_takeNumber_19 : decode cX5_takeNumber 19 = .ok (.aload_n 0, 1) := by decide +kernel
theorem dX5_takeNumber_20 : decode cX5_takeNumber 20 = .ok (.dup, 1) := by decide +kernel
theorem dX5_takeNumber_21 : decode cX5_takeNumber 21 = .ok (.getfield 26, 3) := by decide +kernel
theorem dX5_takeNumber_24 : decode cX5_takeNumber 24 = .ok (.iconst 1, 1) := by decide +kernel
theorem dX5_takeNumber_25 : decode cX5_takeNumber 25 = .ok (.iadd, 1) := by decide +kernel
theorem dX5_takeNumber_26 : decode cX5_takeNumber 26 = .ok (.putfield 26, 3) := by decide +kernel
theorem dX5_takeNumber_29 : decode cX5_takeNumber 29 = .ok (.aload_n 0, 1) := by decide +kernel
theorem dX5_takeNumber_30 : decode cX5_takeNumber 30 = .ok (.invokevirtual 66, 3) := by decide +kernel
theorem dX5_takeNumber_33 : decode cX5_takeNumber 33 = .ok (.ifCond .ne 5, 3) := by decide +kernel
theorem dX5_takeNumber_36 : decode cX5_takeNumber 36 = .ok (.iconst 0, 1) := by decide +kernel
theorem dX5_takeNumber_37 : decode cX5_takeNumber 37 = .ok (.ireturn, 1) := by decide +kernel
theorem dX5_takeNumber_38 : decode cX5_takeNumber 38 = .ok (.iconst 0, 1) := by decide +kernel
theorem dX5_takeNumber_39 : decode cX5_takeNumber 39 = .ok (.istore_n 2, 1) := by decide +kernel
theorem dX5_takeNumber_40 : decode cX5_takeNumber 40 = .ok (.iload_n 2, 1) := by decide +kernel
theorem dX5_takeNumber_41 : decode cX5_takeNumber 41 = .ok (.iconst 4, 1) := by decide +kernel
theorem dX5_takeNumber_42 : decode cX5_takeNumber 42 = .ok (.if_icmp .ge 45, 3) := by decide +kernel
theorem dX5_takeNumber_45 : decode cX5_takeNumber 45 = .ok (.aload_n 0, 1) := by decide +kernel
theorem dX5_takeNumber_46 : decode cX5_takeNumber 46 = .ok (.invokevirtual 66, 3) := by decide +kernel
theorem dX5_takeNumber_49 : decode cX5_takeNumber 49 = .ok (.ifCond .eq 38, 3) := by decide +kernel
theorem dX5_takeNumber_52 : decode cX5_takeNumber 52 = .ok (.aload_n 0, 1) := by decide +kernel
theorem dX5_takeNumber_53 : decode cX5_takeNumber 53 = .ok (.aload_n 0, 1) := by decide +kernel
theorem dX5_takeNumber_54 : decode cX5_takeNumber 54 = .ok (.getfield 32, 3) := by decide +kernel
theorem dX5_takeNumber_57 : decode cX5_takeNumber 57 = .ok (.bipush 10, 2) := by decide +kernel
theorem dX5_takeNumber_59 : decode cX5_takeNumber 59 = .ok (.imul, 1) := by decide +kernel
theorem dX5_takeNumber_60 : decode cX5_takeNumber 60 = .ok (.aload_n 0, 1) := by decide +kernel
theorem dX5_takeNumber_61 : decode cX5_takeNumber 61 = .ok (.invokevirtual 43, 3) := by decide +kernel
theorem dX5_takeNumber_64 : decode cX5_takeNumber 64 = .ok (.iadd, 1) := by decide +kernel
theorem dX5_takeNumber_65 : decode cX5_takeNumber 65 = .ok (.bipush 48, 2) := by decide +kernel
theorem dX5_takeNumber_67 : decode cX5_takeNumber 67 = .ok (.isub, 1) := by decide +kernel
theorem dX5_takeNumber_68 : decode cX5_takeNumber 68 = .ok (.putfield 32, 3) := by decide +kernel
theorem dX5_takeNumber_71 : decode cX5_takeNumber 71 = .ok (.aload_n 0, 1) := by decide +kernel
theorem dX5_takeNumber_72 : decode cX5_takeNumber 72 = .ok (.dup, 1) := by decide +kernel
theorem dX5_takeNumber_73 : decode cX5_takeNumber 73 = .ok (.getfield 26, 3) := by decide +kernel
theorem dX5_takeNumber_76 : decode cX5_takeNumber 76 = .ok (.iconst 1, 1) := by decide +kernel
theorem dX5_takeNumber_77 : decode cX5_takeNumber 77 = .ok (.iadd, 1) := by decide +kernel
theorem dX5_takeNumber_78 : decode cX5_takeNumber 78 = .ok (.putfield 26, 3) := by decide +kernel
theorem dX5_takeNumber_81 : decode cX5_takeNumber 81 = .ok (.iinc 2 1, 3) := by decide +kernel
theorem dX5_takeNumber_84 : decode cX5_takeNumber 84 = .ok (.goto (-44), 3) := by decide +kernel
theorem dX5_takeNumber_87 : decode cX5_takeNumber 87 = .ok (.iload_n 1, 1) := by decide +kernel
theorem dX5_takeNumber_88 : decode cX5_takeNumber 88 = .ok (.ifCond .eq 12, 3) := by decide +kernel
theorem dX5_takeNumber_91 : decode cX5_takeNumber 91 = .ok (.aload_n 0, 1) := by decide +kernel
theorem dX5_takeNumber_92 : decode cX5_takeNumber 92 = .ok (.aload_n 0, 1) := by decide +kernel
theorem dX5_takeNumber_93 : decode cX5_takeNumber 93 = .ok (.getfield 32, 3) := by decide +kernel
theorem dX5_takeNumber_96 : decode cX5_takeNumber 96 = .ok (.ineg, 1) := by decide +kernel
theorem dX5_takeNumber_97 : decode cX5_takeNumber 97 = .ok (.putfield 32, 3) := by decide +kernel
theorem dX5_takeNumber_100 : decode cX5_takeNumber 100 = .ok (.iconst 1, 1) := by decide +kernel
theorem dX5_takeNumber_101 : decode cX5_takeNumber 101 = .ok (.ireturn, 1) := by decide +kernel
theorem dX6_init_0 : decode cX6_init 0 = .ok (.aload_n 0, 1) := by decide +kernel
theorem dX6_init_1 : decode cX6_init 1 = .ok (.invokespecial 3, 3) := by decide +kernel
theorem dX6_init_4 : decode cX6_init 4 = .ok (.aload_n 0, 1) := by decide +kernel
theorem dX6_init_5 : decode cX6_init 5 = .ok (.new 9, 3) := by decide +kernel
theorem dX6_init_8 : decode cX6_init 8 = .ok (.dup, 1) := by decide +kernel
theorem dX6_init_9 : decode cX6_init 9 = .ok (.invokespecial 11, 3) := by decide +kernel
theorem dX6_init_12 : decode cX6_init 12 = .ok (.putfield 12, 3) := by decide +kernel
theorem dX6_init_15 : decode cX6_init 15 = .ok (.aload_n 0, 1) := by decide +kernel
theorem dX6_init_16 : decode cX6_init 16 = .ok (.new 18, 3) := by decide +kernel
theorem dX6_init_19 : decode cX6_init 19 = .ok (.dup, 1) := by decide +kernel
theorem dX6_init_20 : decode cX6_init 20 = .ok (.iconst 4, 1) := by decide +kernel
theorem dX6_init_21 : decode cX6_init 21 = .ok (.invokespecial 20, 3) := by decide +kernel
theorem dX6_init_24 : decode cX6_init 24 = .ok (.putfield 23, 3) := by decide +kernel
theorem dX6_init_27 : decode cX6_init 27 = .ok (.aload_n 0, 1) := by decide +kernel
theorem dX6_init_28 : decode cX6_init 28 = .ok (.new 18, 3) := by decide +kernel
theorem dX6_init_31 : decode cX6_init 31 = .ok (.dup, 1) := by decide +kernel
theorem dX6_init_32 : decode cX6_init 32 = .ok (.bipush 8, 2) := by decide +kernel
theorem dX6_init_34 : decode cX6_init 34 = .ok (.invokespecial 20, 3) := by decide +kernel
theorem dX6_init_37 : decode cX6_init 37 = .ok (.putfield 27, 3) := by decide +kernel
theorem dX6_init_40 : decode cX6_init 40 = .ok (.aload_n 0, 1) := by decide +kernel
theorem dX6_init_41 : decode cX6_init 41 = .ok (.new 18, 3) := by decide +kernel
theorem dX6_init_44 : decode cX6_init 44 = .ok (.dup, 1) := by decide +kernel
theorem dX6_init_45 : decode cX6_init 45 = .ok (.bipush 8, 2) := by decide +kernel
theorem dX6_init_47 : decode cX6_init 47 = .ok (.invokespecial 20, 3) := by decide +kernel
theorem dX6_init_50 : decode cX6_init 50 = .ok (.putfield 30, 3) := by decide +kernel
theorem dX6_init_53 : decode cX6_init 53 = .ok (.return_, 1) := by decide +kernel
