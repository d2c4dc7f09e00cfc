theorem dX6_copy_0 : decode cX6_copy 0 = .ok (.aload_n 0, 1) := by decide +kernel
theorem dX6_copy_1 : decode cX6_copy 1 = .ok (.getfield 12, 3) := by decide +kernel
theorem dX6_copy_4 : decode cX6_copy 4 = .ok (.aload_n 1, 1) := by decide +kernel
theorem dX6_copy_5 : decode cX6_copy 5 = .ok (.getfield 12, 3) := by decide +kernel
theorem dX6_copy_8 : decode cX6_copy 8 = .ok (.invokevirtual 33, 3) := by decide +kernel
theorem dX6_copy_11 : decode cX6_copy 11 = .ok (.aload_n 0, 1) := by decide +kernel
theorem dX6_copy_12 : decode cX6_copy 12 = .ok (.getfield 23, 3) := by decide +kernel
theorem dX6_copy_15 : decode cX6_copy 15 = .ok (.aload_n 1, 1) := by decide +kernel
theorem dX6_copy_16 : decode cX6_copy 16 = .ok (.getfield 23, 3) := by decide +kernel
theorem dX6_copy_19 : decode cX6_copy 19 = .ok (.invokevirtual 37, 3) := by decide +kernel
theorem dX6_copy_22 : decode cX6_copy 22 = .ok (.aload_n 0, 1) := by decide +kernel
theorem dX6_copy_23 : decode cX6_copy 23 = .ok (.getfield 27, 3) := by decide +kernel
theorem dX6_copy_26 : decode cX6_copy 26 = .ok (.aload_n 1, 1) := by decide +kernel
theorem dX6_copy_27 : decode cX6_copy 27 = .ok (.getfield 27, 3) := by decide +kernel
theorem dX6_copy_30 : decode cX6_copy 30 = .ok (.invokevirtual 37, 3) := by decide +kernel
theorem dX6_copy_33 : decode cX6_copy 33 = .ok (.aload_n 0, 1) := by decide +kernel
theorem dX6_copy_34 : decode cX6_copy 34 = .ok (.getfield 30, 3) := by decide +kernel
theorem dX6_copy_37 : decode cX6_copy 37 = .ok (.aload_n 1, 1) := by decide +kernel
theorem dX6_copy_38 : decode cX6_copy 38 = .ok (.getfield 30, 3) := by decide +kernel
theorem dX6_copy_41 : decode cX6_copy 41 = .ok (.invokevirtual 37, 3) := by decide +kernel
theorem dX6_copy_44 : decode cX6_copy 44 = .ok (.return_, 1) := by decide +kernel
theorem dX7_init_0 : decode cX7_init 0 = .ok (.aload_n 0, 1) := by decide +kernel
theorem dX7_init_1 : decode cX7_init 1 = .ok (.invokespecial 3, 3) := by decide +kernel
theorem dX7_init_4 : decode cX7_init 4 = .ok (.aload_n 0, 1) := by decide +kernel
theorem dX7_init_5 : decode cX7_init 5 = .ok (.iconst (-1), 1) := by decide +kernel
theorem dX7_init_6 : decode cX7_init 6 = .ok (.putfield 9, 3) := by decide +kernel
theorem dX7_init_9 : decode cX7_init 9 = .ok (.aload_n 0, 1) := by decide +kernel
theorem dX7_init_10 : decode cX7_init 10 = .ok (.bipush 60, 2) := by decide +kernel
theorem dX7_init_12 : decode cX7_init 12 = .ok (.newarray .long, 2) := by decide +kernel
theorem dX7_init_14 : decode cX7_init 14 = .ok (.putfield 15, 3) := by decide +kernel
theorem dX7_init_17 : decode cX7_init 17 = .ok (.aload_n 0, 1) := by decide +kernel
theorem dX7_init_18 : decode cX7_init 18 = .ok (.iconst 0, 1) := by decide +kernel
theorem dX7_init_19 : decode cX7_init 19 = .ok (.putfield 19, 3) := by decide +kernel
theorem dX7_init_22 : decode cX7_init 22 = .ok (.return_, 1) := by decide +kernel
theorem dX7_become_0 : decode cX7_become 0 = .ok (.aload_n 0, 1) := by decide +kernel
theorem dX7_become_1 : decode cX7_become 1 = .ok (.iload_n 1, 1) := by decide +kernel
theorem dX7_become_2 : decode cX7_become 2 = .ok (.putfield 9, 3) := by decide +kernel
theorem dX7_become_5 : decode cX7_become 5 = .ok (.aload_n 0, 1) := by decide +kernel
theorem dX7_become_6 : decode cX7_become 6 = .ok (.iconst 0, 1) := by decide +kernel
theorem dX7_become_7 : decode cX7_become 7 = .ok (.iload_n 2, 1) := by decide +kernel
theorem dX7_become_8 : decode cX7_become 8 = .ok (.aload_n 0, 1) := by decide +kernel
theorem dX7_become_9 : decode cX7_become 9 = .ok (.getfield 15, 3) := by decide +kernel
theorem dX7_become_12 : decode cX7_become 12 = .ok (.arraylength, 1) := by decide +kernel
theorem dX7_become_13 : decode cX7_become 13 = .ok (.invokestatic 22, 3) := by decide +kernel
theorem dX7_become_16 : decode cX7_become 16 = .ok (.invokestatic 28, 3) := by decide +kernel
theorem dX7_become_19 : decode cX7_become 19 = .ok (.putfield 19, 3) := by decide +kernel
theorem dX7_become_22 : decode cX7_become 22 = .ok (.aload_n 0, 1) := by decide +kernel
theorem dX7_become_23 : decode cX7_become 23 = .ok (.getfield 15, 3) := by decide +kernel
theorem dX7_become_26 : decode cX7_become 26 = .ok (.lconst 0, 1) := by decide +kernel
theorem dX7_become_27 : decode cX7_become 27 = .ok (.invokestatic 31, 3) := by decide +kernel
theorem dX7_become_30 : decode cX7_become 30 = .ok (.return_, 1) := by decide +kernel
theorem dX7_holdsNothing_0 : decode cX7_holdsNothing 0 = .ok (.aload_n 0, 1) := by decide +kernel
theorem dX7_holdsNothing_1 : decode cX7_holdsNothing 1 = .ok (.getfield 9, 3) := by decide +kernel
theorem dX7_holdsNothing_4 : decode cX7_holdsNothing 4 = .ok (.iconst (-1), 1) := by decide +kernel
theorem dX7_holdsNothing_5 : decode cX7_holdsNothing 5 = .ok (.if_icmp .ne 7, 3) := by decide +kernel
theorem dX7_holdsNothing_8 : decode cX7_holdsNothing 8 = .ok (.iconst 1, 1) := by decide +kernel
theorem dX7_holdsNothing_9 : decode cX7_holdsNothing 9 = .ok (.goto 4, 3) := by decide +kernel
theorem dX7_holdsNothing_12 : decode cX7_holdsNothing 12 = .ok (.iconst 0, 1) := by decide +kernel
theorem dX7_holdsNothing_13 : decode cX7_holdsNothing 13 = .ok (.ireturn, 1) := by decide +kernel
theorem dX7_has_0 : decode cX7_has 0 = .ok (.iload_n 1, 1) := by decide +kernel
theorem dX7_has_1 : decode cX7_has 1 = .ok (.ifCond .lt 24, 3) := by decide +kernel
theorem dX7_has_4 : decode cX7_has 4 = .ok (.iload_n 1, 1) := by decide +kernel
theorem dX7_has_5 : decode cX7_has 5 = .ok (.aload_n 0, 1) := by decide +kernel
theorem dX7_has_6 : decode cX7_has 6 = .ok (.getfield 19, 3) := by decide +kernel
theorem dX7_has_9 : decode cX7_has 9 = .ok (.if_icmp .ge 16, 3) := by decide +kernel
theorem dX7_has_12 : decode cX7_has 12 = .ok (.iload_n 1, 1) := by decide +kernel
theorem dX7_has_13 : decode cX7_has 13 = .ok (.aload_n 0, 1) := by decide +kernel
theorem dX7_has_14 : decode cX7_has 14 = .ok (.getfield 15, 3) := by decide +kernel
theorem dX7_has_17 : decode cX7_has 17 = .ok (.arraylength, 1) := by decide +kernel
theorem dX7_has_18 : decode cX7_has 18 = .ok (.if_icmp .ge 7, 3) := by decide +kernel
theorem dX7_has_21 : decode cX7_has 21 = .ok (.iconst 1, 1) := by decide +kernel
theorem dX7_has_22 : decode cX7_has 22 = .ok (.goto 4, 3) := by decide +kernel
theorem dX7_has_25 : decode cX7_has 25 = .ok (.iconst 0, 1) := by decide +kernel
theorem dX7_has_26 : decode cX7_has 26 = .ok (.ireturn, 1) := by decide +kernel
theorem dX7_hasAll_0 : decode cX7_hasAll 0 = .ok (.iload_n 1, 1) := by decide +kernel
theorem dX7_hasAll_1 : decode cX7_hasAll 1 = .ok (.ifCond .lt 21, 3) := by decide +kernel
theorem dX7_hasAll_4 : decode cX7_hasAll 4 = .ok (.iload_n 2, 1) := by decide +kernel
theorem dX7_hasAll_5 : decode cX7_hasAll 5 = .ok (.ifCond .lt 17, 3) := by decide +kernel
theorem dX7_hasAll_8 : decode cX7_hasAll 8 = .ok (.iload_n 1, 1) := by decide +kernel
theorem dX7_hasAll_9 : decode cX7_hasAll 9 = .ok (.aload_n 0, 1) := by decide +kernel
theorem dX7_hasAll_10 : decode cX7_hasAll 10 = .ok (.getfield 19, 3) := by decide +kernel
theorem dX7_hasAll_13 : decode cX7_hasAll 13 = .ok (.iload_n 2, 1) := by decide +kernel
theorem dX7_hasAll_14 : decode cX7_hasAll 14 = .ok (.isub, 1) := by decide +kernel
theorem dX7_hasAll_15 : decode cX7_hasAll 15 = .ok (.if_icmp .gt 7, 3) := by decide +kernel
theorem dX7_hasAll_18 : decode cX7_hasAll 18 = .ok (.iconst 1, 1) := by decide +kernel
theorem dX7_hasAll_19 : decode cX7_hasAll 19 = .ok (.goto 4, 3) := by decide +kernel
theorem dX7_hasAll_22 : decode cX7_hasAll 22 = .ok (.iconst 0, 1) := by decide +kernel
theorem dX7_hasAll_23 : decode cX7_hasAll 23 = .ok (.ireturn, 1) := by decide +kernel
theorem dX7_get_0 : decode cX7_get 0 = .ok (.aload_n 0, 1) := by decide +kernel
theorem dX7_get_1 : decode cX7_get 1 = .ok (.iload_n 1, 1) := by decide +kernel
theorem dX7_get_2 : decode cX7_get 2 = .ok (.invokevirtual 37, 3) := by decide +kernel
theorem dX7_get_5 : decode cX7_get 5 = .ok (.ifCond .eq 12, 3) := by decide +kernel
theorem dX7_get_8 : decode cX7_get 8 = .ok (.aload_n 0, 1) := by decide +kernel
theorem dX7_get_9 : decode cX7_get 9 = .ok (.getfield 15, 3) := by decide +kernel
theorem dX7_get_12 : decode cX7_get 12 = .ok (.iload_n 1, 1) := by decide +kernel
theorem dX7_get_13 : decode cX7_get 13 = .ok (.laload, 1) := by decide +kernel
theorem dX7_get_14 : decode cX7_get 14 = .ok (.goto 4, 3) := by decide +kernel
theorem dX7_get_17 : decode cX7_get 17 = .ok (.lconst 0, 1) := by decide +kernel
theorem dX7_get_18 : decode cX7_get 18 = .ok (.lreturn, 1) := by decide +kernel
theorem dX7_set_0 : decode cX7_set 0 = .ok (.aload_n 0, 1) := by decide +kernel
theorem dX7_set_1 : decode cX7_set 1 = .ok (.iload_n 1, 1) := by decide +kernel
theorem dX7_set_2 : decode cX7_set 2 = .ok (.invokevirtual 37, 3) := by decide +kernel
theorem dX7_set_5 : decode cX7_set 5 = .ok (.ifCond .eq 14, 3) := by decide +kernel
theorem dX7_set_8 : decode cX7_set 8 = .ok (.aload_n 0, 1) := by decide +kernel
theorem dX7_set_9 : decode cX7_set 9 = .ok (.getfield 15, 3) := by decide +kernel
theorem dX7_set_12 : decode cX7_set 12 = .ok (.iload_n 1, 1) := by decide +kernel
theorem dX7_set_13 : decode cX7_set 13 = .ok (.aload_n 0, 1) := by decide +kernel
theorem dX7_set_14 : decode cX7_set 14 = .ok (.lload_n 2, 1) := by decide +kernel
theorem dX7_set_15 : decode cX7_set 15 = .ok (.invokevirtual 41, 3) := by decide +kernel
theorem dX7_set_18 : decode cX7_set 18 = .ok (.lastore, 1) := by decide +kernel
theorem dX7_set_19 : decode cX7_set 19 = .ok (.return_, 1) := by decide +kernel
theorem dX7_lowestBits_0 : decode cX7_lowestBits 0 = .ok (.aload_n 0, 1) := by decide +kernel
theorem dX7_lowestBits_1 : decode cX7_lowestBits 1 = .ok (.getfield 9, 3) := by decide +kernel
theorem dX7_lowestBits_4 : decode cX7_lowestBits 4 = .ok (.tableswitch 62 0 4 #[36, 41, 46, 62, 50], 36) := by decide +kernel
theorem dX7_lowestBits_40 : decode cX7_lowestBits 40 = .ok (.lload_n 1, 1) := by decide +kernel
theorem dX7_lowestBits_41 : decode cX7_lowestBits 41 = .ok (.l2i, 1) := by decide +kernel
theorem dX7_lowestBits_42 : decode cX7_lowestBits 42 = .ok (.i2b, 1) := by decide +kernel
theorem dX7_lowestBits_43 : decode cX7_lowestBits 43 = .ok (.i2l, 1) := by decide +kernel
theorem dX7_lowestBits_44 : decode cX7_lowestBits 44 = .ok (.lreturn, 1) := by decide +kernel
theorem dX7_lowestBits_45 : decode cX7_lowestBits 45 = .ok (.lload_n 1, 1) := by decide +kernel
theorem dX7_lowestBits_46 : decode cX7_lowestBits 46 = .ok (.l2i, 1) := by decide +kernel
theorem dX7_lowestBits_47 : decode cX7_lowestBits 47 = .ok (.i2s, 1) := by decide +kernel
theorem dX7_lowestBits_48 : decode cX7_lowestBits 48 = .ok (.i2l, 1) := by decide +kernel
theorem dX7_lowestBits_49 : decode cX7_lowestBits 49 = .ok (.lreturn, 1) := by decide +kernel
theorem dX7_lowestBits_50 : decode cX7_lowestBits 50 = .ok (.lload_n 1, 1) := by decide +kernel
theorem dX7_lowestBits_51 : decode cX7_lowestBits 51 = .ok (.l2i, 1) := by decide +kernel
theorem dX7_lowestBits_52 : decode cX7_lowestBits 52 = .ok (.i2l, 1) := by decide +kernel
theorem dX7_lowestBits_53 : decode cX7_lowestBits 53 = .ok (.lreturn, 1) := by decide +kernel
theorem dX7_lowestBits_54 : decode cX7_lowestBits 54 = .ok (.lload_n 1, 1) := by decide +kernel
theorem dX7_lowestBits_55 : decode cX7_lowestBits 55 = .ok (.lconst 0, 1) := by decide +kernel
theorem dX7_lowestBits_56 : decode cX7_lowestBits 56 = .ok (.lcmp, 1) := by decide +kernel
theorem dX7_lowestBits_57 : decode cX7_lowestBits 57 = .ok (.ifCond .eq 7, 3) := by decide +kernel
theorem dX7_lowestBits_60 : decode cX7_lowestBits 60 = .ok (.lconst 1, 1) := by decide +kernel
theorem dX7_lowestBits_61 : decode cX7_lowestBits 61 = .ok (.goto 4, 3) := by decide +kernel
theorem dX7_lowestBits_64 : decode cX7_lowestBits 64 = .ok (.lconst 0, 1) := by decide +kernel
theorem dX7_lowestBits_65 : decode cX7_lowestBits 65 = .ok (.lreturn, 1) := by decide +kernel
theorem dX7_lowestBits_66 : decode cX7_lowestBits 66 = .ok (.lload_n 1, 1) := by decide +kernel
theorem dX7_lowestBits_67 : decode cX7_lowestBits 67 = .ok (.lreturn, 1) := by decide +kernel
theorem dX8_init_0 : decode cX8_init 0 = .ok (.aload_n 0, 1) := by decide +kernel
theorem dX8_init_1 : decode cX8_init 1 = .ok (.invokespecial 1, 3) := by decide +kernel
theorem dX8_init_4 : decode cX8_init 4 = .ok (.aload_n 0, 1) := by decide +kernel
theorem dX8_init_5 : decode cX8_init 5 = .ok (.iconst 0, 1) := by decide +kernel
theorem dX8_init_6 : decode cX8_init 6 = .ok (.putfield 7, 3) := by decide +kernel
theorem dX8_init_9 : decode cX8_init 9 = .ok (.aload_n 0, 1) := by decide +kernel
theorem dX8_init_10 : decode cX8_init 10 = .ok (.sipush 416, 3) := by decide +kernel
theorem dX8_init_13 : decode cX8_init 13 = .ok (.newarray .int, 2) := by decide +kernel
theorem dX8_init_15 : decode cX8_init 15 = .ok (.putfield 13, 3) := by decide +kernel
theorem dX8_init_18 : decode cX8_init 18 = .ok (.return_, 1) := by decide +kernel
theorem dX8_look_0 : decode cX8_look 0 = .ok (.aload_n 0, 1) := by decide +kernel
theorem dX8_look_1 : decode cX8_look 1 = .ok (.iconst 0, 1) := by decide +kernel
theorem dX8_look_2 : decode cX8_look 2 = .ok (.putfield 7, 3) := by decide +kernel
theorem dX8_look_5 : decode cX8_look 5 = .ok (.bipush (-2), 2) := by decide +kernel
theorem dX8_look_7 : decode cX8_look 7 = .ok (.istore_n 2, 1) := by decide +kernel
theorem dX8_look_8 : decode cX8_look 8 = .ok (.iload_n 2, 1) := by decide +kernel
theorem dX8_look_9 : decode cX8_look 9 = .ok (.iconst 2, 1) := by decide +kernel
theorem dX8_look_10 : decode cX8_look 10 = .ok (.if_icmp .gt 101, 3) := by decide +kernel
theorem dX8_look_13 : decode cX8_look 13 = .ok (.bipush (-2), 2) := by decide +kernel
theorem dX8_look_15 : decode cX8_look 15 = .ok (.istore_n 3, 1) := by decide +kernel
theorem dX8_look_16 : decode cX8_look 16 = .ok (.iload_n 3, 1) := by decide +kernel
theorem dX8_look_17 : decode cX8_look 17 = .ok (.iconst 2, 1) := by decide +kernel
theorem dX8_look_18 : decode cX8_look 18 = .ok (.if_icmp .gt 87, 3) := by decide +kernel
theorem dX8_look_21 : decode cX8_look 21 = .ok (.bipush (-2), 2) := by decide +kernel
theorem dX8_look_23 : decode cX8_look 23 = .ok (.istore 4, 2) := by decide +kernel
theorem dX8_look_25 : decode cX8_look 25 = .ok (.iload 4, 2) := by decide +kernel
theorem dX8_look_27 : decode cX8_look 27 = .ok (.iconst 2, 1) := by decide +kernel
theorem dX8_look_28 : decode cX8_look 28 = .ok (.if_icmp .gt 71, 3) := by decide +kernel
theorem dX8_look_31 : decode cX8_look 31 = .ok (.bipush (-2), 2) := by decide +kernel
theorem dX8_look_33 : decode cX8_look 33 = .ok (.istore 5, 2) := by decide +kernel
theorem dX8_look_35 : decode cX8_look 35 = .ok (.iload 5, 2) := by decide +kernel
theorem dX8_look_37 : decode cX8_look 37 = .ok (.iconst 2, 1) := by decide +kernel
theorem dX8_look_38 : decode cX8_look 38 = .ok (.if_icmp .gt 55, 3) := by decide +kernel
theorem dX8_look_41 : decode cX8_look 41 = .ok (.iload_n 2, 1) := by decide +kernel
theorem dX8_look_42 : decode cX8_look 42 = .ok (.iload 5, 2) := by decide +kernel
theorem dX8_look_44 : decode cX8_look 44 = .ok (.imul, 1) := by decide +kernel
theorem dX8_look_45 : decode cX8_look 45 = .ok (.iload_n 3, 1) := by decide +kernel
theorem dX8_look_46 : decode cX8_look 46 = .ok (.iload 4, 2) := by decide +kernel
theorem dX8_look_48 : decode cX8_look 48 = .ok (.imul, 1) := by decide +kernel
theorem dX8_look_49 : decode cX8_look 49 = .ok (.isub, 1) := by decide +kernel
theorem dX8_look_50 : decode cX8_look 50 = .ok (.istore 6, 2) := by decide +kernel
theorem dX8_look_52 : decode cX8_look 52 = .ok (.iload 6, 2) := by decide +kernel
theorem dX8_look_54 : decode cX8_look 54 = .ok (.iconst 1, 1) := by decide +kernel
theorem dX8_look_55 : decode cX8_look 55 = .ok (.if_icmp .eq 9, 3) := by decide +kernel
theorem dX8_look_58 : decode cX8_look 58 = .ok (.iload 6, 2) := by decide +kernel
theorem dX8_look_60 : decode cX8_look 60 = .ok (.iconst (-1), 1) := by decide +kernel
theorem dX8_look_61 : decode cX8_look 61 = .ok (.if_icmp .ne 26, 3) := by decide +kernel
theorem dX8_look_64 : decode cX8_look 64 = .ok (.aload_n 1, 1) := by decide +kernel
theorem dX8_look_65 : decode cX8_look 65 = .ok (.iload_n 2, 1) := by decide +kernel
theorem dX8_look_66 : decode cX8_look 66 = .ok (.iload_n 3, 1) := by decide +kernel
theorem dX8_look_67 : decode cX8_look 67 = .ok (.iload 4, 2) := by decide +kernel
theorem dX8_look_69 : decode cX8_look 69 = .ok (.iload 5, 2) := by decide +kernel
theorem dX8_look_71 : decode cX8_look 71 = .ok (.invokevirtual 17, 3) := by decide +kernel
theorem dX8_look_74 : decode cX8_look 74 = .ok (.ifCond .eq 13, 3) := by decide +kernel
theorem dX8_look_77 : decode cX8_look 77 = .ok (.aload_n 0, 1) := by decide +kernel
theorem dX8_look_78 : decode cX8_look 78 = .ok (.iload_n 2, 1) := by decide +kernel
theorem dX8_look_79 : decode cX8_look 79 = .ok (.iload_n 3, 1) := by decide +kernel
theorem dX8_look_80 : decode cX8_look 80 = .ok (.iload 4, 2) := by decide +kernel
theorem dX8_look_82 : decode cX8_look 82 = .ok (.iload 5, 2) := by decide +kernel
theorem dX8_look_84 : decode cX8_look 84 = .ok (.invokevirtual 23, 3) := by decide +kernel
theorem dX8_look_87 : decode cX8_look 87 = .ok (.iinc 5 1, 3) := by decide +kernel
theorem dX8_look_90 : decode cX8_look 90 = .ok (.goto (-55), 3) := by decide +kernel
theorem dX8_look_93 : decode cX8_look 93 = .ok (.iinc 4 1, 3) := by decide +kernel
theorem dX8_look_96 : decode cX8_look 96 = .ok (.goto (-71), 3) := by decide +kernel
theorem dX8_look_99 : decode cX8_look 99 = .ok (.iinc 3 1, 3) := by decide +kernel
theorem dX8_look_102 : decode cX8_look 102 = .ok (.goto (-86), 3) := by decide +kernel
theorem dX8_look_105 : decode cX8_look 105 = .ok (.iinc 2 1, 3) := by decide +kernel
theorem dX8_look_108 : decode cX8_look 108 = .ok (.goto (-100), 3) := by decide +kernel
theorem dX8_look_111 : decode cX8_look 111 = .ok (.return_, 1) := by decide +kernel
theorem dX8_get_0 : decode cX8_get 0 = .ok (.iload_n 1, 1) := by decide +kernel
theorem dX8_get_1 : decode cX8_get 1 = .ok (.iconst 4, 1) := by decide +kernel
theorem dX8_get_2 : decode cX8_get 2 = .ok (.imul, 1) := by decide +kernel
theorem dX8_get_3 : decode cX8_get 3 = .ok (.iload_n 2, 1) := by decide +kernel
theorem dX8_get_4 : decode cX8_get 4 = .ok (.iadd, 1) := by decide +kernel
theorem dX8_get_5 : decode cX8_get 5 = .ok (.istore_n 3, 1) := by decide +kernel
theorem dX8_get_6 : decode cX8_get 6 = .ok (.iload_n 1, 1) := by decide +kernel
theorem dX8_get_7 : decode cX8_get 7 = .ok (.ifCond .lt 38, 3) := by decide +kernel
theorem dX8_get_10 : decode cX8_get 10 = .ok (.iload_n 1, 1) := by decide +kernel
theorem dX8_get_11 : decode cX8_get 11 = .ok (.aload_n 0, 1) := by decide +kernel
theorem dX8_get_12 : decode cX8_get 12 = .ok (.getfield 7, 3) := by decide +kernel
theorem dX8_get_15 : decode cX8_get 15 = .ok (.if_icmp .ge 30, 3) := by decide +kernel
theorem dX8_get_18 : decode cX8_get 18 = .ok (.iload_n 2, 1) := by decide +kernel
theorem dX8_get_19 : decode cX8_get 19 = .ok (.ifCond .lt 26, 3) := by decide +kernel
theorem dX8_get_22 : decode cX8_get 22 = .ok (.iload_n 2, 1) := by decide +kernel
theorem dX8_get_23 : decode cX8_get 23 = .ok (.iconst 4, 1) := by decide +kernel
theorem dX8_get_24 : decode cX8_get 24 = .ok (.if_icmp .ge 21, 3) := by decide +kernel
theorem dX8_get_27 : decode cX8_get 27 = .ok (.iload_n 3, 1) := by decide +kernel
theorem dX8_get_28 : decode cX8_get 28 = .ok (.aload_n 0, 1) := by decide +kernel
theorem dX8_get_29 : decode cX8_get 29 = .ok (.getfield 13, 3) := by decide +kernel
theorem dX8_get_32 : decode cX8_get 32 = .ok (.arraylength, 1) := by decide +kernel
theorem dX8_get_33 : decode cX8_get 33 = .ok (.if_icmp .ge 12, 3) := by decide +kernel
theorem dX8_get_36 : decode cX8_get 36 = .ok (.aload_n 0, 1) := by decide +kernel
theorem dX8_get_37 : decode cX8_get 37 = .ok (.getfield 13, 3) := by decide +kernel
theorem dX8_get_40 : decode cX8_get 40 = .ok (.iload_n 3, 1) := by decide +kernel
theorem dX8_get_41 : decode cX8_get 41 = .ok (.iaload, 1) := by decide +kernel
theorem dX8_get_42 : decode cX8_get 42 = .ok (.goto 4, 3) := by decide +kernel
theorem dX8_get_45 : decode cX8_get 45 = .ok (.iconst 0, 1) := by decide +kernel
theorem dX8_get_46 : decode cX8_get 46 = .ok (.ireturn, 1) := by decide +kernel
theorem dX8_add_0 : decode cX8_add 0 = .ok (.aload_n 0, 1) := by decide +kernel
theorem dX8_add_1 : decode cX8_add 1 = .ok (.getfield 7, 3) := by decide +kernel
theorem dX8_add_4 : decode cX8_add 4 = .ok (.iconst 4, 1) := by decide +kernel
theorem dX8_add_5 : decode cX8_add 5 = .ok (.imul, 1) := by decide +kernel
theorem dX8_add_6 : decode cX8_add 6 = .ok (.istore 5, 2) := by decide +kernel
theorem dX8_add_8 : decode cX8_add 8 = .ok (.iload 5, 2) := by decide +kernel
theorem dX8_add_10 : decode cX8_add 10 = .ok (.ifCond .lt 15, 3) := by decide +kernel
theorem dX8_add_13 : decode cX8_add 13 = .ok (.iload 5, 2) := by decide +kernel
theorem dX8_add_15 : decode cX8_add 15 = .ok (.iconst 3, 1) := by decide +kernel
theorem dX8_add_16 : decode cX8_add 16 = .ok (.iadd, 1) := by decide +kernel
theorem dX8_add_17 : decode cX8_add 17 = .ok (.aload_n 0, 1) := by decide +kernel
theorem dX8_add_18 : decode cX8_add 18 = .ok (.getfield 13, 3) := by decide +kernel
theorem dX8_add_21 : decode cX8_add 21 = .ok (.arraylength, 1) := by decide +kernel
theorem dX8_add_22 : decode cX8_add 22 = .ok (.if_icmp .lt 4, 3) := by decide +kernel
theorem dX8_add_25 : decode cX8_add 25 = .ok (.return_, 1) := by decide +kernel
theorem dX8_add_26 : decode cX8_add 26 = .ok (.aload_n 0, 1) := by decide +kernel
theorem dX8_add_27 : decode cX8_add 27 = .ok (.getfield 13, 3) := by decide +kernel
theorem dX8_add_30 : decode cX8_add 30 = .ok (.iload 5, 2) := by decide +kernel
theorem dX8_add_32 : decode cX8_add 32 = .ok (.iload_n 1, 1) := by decide +kernel
theorem dX8_add_33 : decode cX8_add 33 = .ok (.iastore, 1) := by decide +kernel
theorem dX8_add_34 : decode cX8_add 34 = .ok (.aload_n 0, 1) := by decide +kernel
theorem dX8_add_35 : decode cX8_add 35 = .ok (.getfield 13, 3) := by decide +kernel
theorem dX8_add_38 : decode cX8_add 38 = .ok (.iload 5, 2) := by decide +kernel
theorem dX8_add_40 : decode cX8_add 40 = .ok (.iconst 1, 1) := by decide +kernel
theorem dX8_add_41 : decode cX8_add 41 = .ok (.iadd, 1) := by decide +kernel
theorem dX8_add_42 : decode cX8_add 42 = .ok (.iload_n 2, 1) := by decide +kernel
theorem dX8_add_43 : decode cX8_add 43 = .ok (.iastore, 1) := by decide +kernel
theorem dX8_add_44 : decode cX8_add 44 = .ok (.aload_n 0, 1) := by decide +kernel
theorem dX8_add_45 : decode cX8_add 45 = .ok (.getfield 13, 3) := by decide +kernel
theorem dX8_add_48 : decode cX8_add 48 = .ok (.iload 5, 2) := by decide +kernel
theorem dX8_add_50 : decode cX8_add 50 = .ok (.iconst 2, 1) := by decide +kernel
theorem dX8_add_51 : decode cX8_add 51 = .ok (.iadd, 1) := by decide +kernel
theorem dX8_add_52 : decode cX8_add 52 = .ok (.iload_n 3, 1) := by decide +kernel
theorem dX8_add_53 : decode cX8_add 53 = .ok (.iastore, 1) := by decide +kernel
theorem dX8_add_54 : decode cX8_add 54 = .ok (.aload_n 0, 1) := by decide +kernel
theorem dX8_add_55 : decode cX8_add 55 = .ok (.getfield 13, 3) := by decide +kernel
theorem dX8_add_58 : decode cX8_add 58 = .ok (.iload 5, 2) := by decide +kernel
theorem dX8_add_60 : decode cX8_add 60 = .ok (.iconst 3, 1) := by decide +kernel
theorem dX8_add_61 : decode cX8_add 61 = .ok (.iadd, 1) := by decide +kernel
theorem dX8_add_62 : decode cX8_add 62 = .ok (.iload 4, 2) := by decide +kernel
theorem dX8_add_64 : decode cX8_add 64 = .ok (.iastore, 1) := by decide +kernel
theorem dX8_add_65 : decode cX8_add 65 = .ok (.aload_n 0, 1) := by decide +kernel
theorem dX8_add_66 : decode cX8_add 66 = .ok (.dup, 1) := by decide +kernel
theorem dX8_add_67 : decode cX8_add 67 = .ok (.getfield 7, 3) := by decide +kernel
theorem dX8_add_70 : decode cX8_add 70 = .ok (.iconst 1, 1) := by decide +kernel
theorem dX8_add_71 : decode cX8_add 71 = .ok (.iadd, 1) := by decide +kernel
theorem dX8_add_72 : decode cX8_add 72 = .ok (.putfield 7, 3) := by decide +kernel
theorem dX8_add_75 : decode cX8_add 75 = .ok (.return_, 1) := by decide +kernel
theorem dX9_init_0 : decode cX9_init 0 = .ok (.aload_n 0, 1) := by decide +kernel
theorem dX9_init_1 : decode cX9_init 1 = .ok (.invokespecial 3, 3) := by decide +kernel
theorem dX9_init_4 : decode cX9_init 4 = .ok (.aload_n 0, 1) := by decide +kernel
theorem dX9_init_5 : decode cX9_init 5 = .ok (.new 9, 3) := by decide +kernel
theorem dX9_init_8 : decode cX9_init 8 = .ok (.dup, 1) := by decide +kernel
theorem dX9_init_9 : decode cX9_init 9 = .ok (.invokespecial 11, 3) := by decide +kernel
theorem dX9_init_12 : decode cX9_init 12 = .ok (.putfield 12, 3) := by decide +kernel
theorem dX9_init_15 : decode cX9_init 15 = .ok (.aload_n 0, 1) := by decide +kernel
theorem dX9_init_16 : decode cX9_init 16 = .ok (.new 9, 3) := by decide +kernel
theorem dX9_init_19 : decode cX9_init 19 = .ok (.dup, 1) := by decide +kernel
theorem dX9_init_20 : decode cX9_init 20 = .ok (.invokespecial 11, 3) := by decide +kernel
theorem dX9_init_23 : decode cX9_init 23 = .ok (.putfield 18, 3) := by decide +kernel
theorem dX9_init_26 : decode cX9_init 26 = .ok (.aload_n 0, 1) := by decide +kernel
theorem dX9_init_27 : decode cX9_init 27 = .ok (.iconst 0, 1) := by decide +kernel
theorem dX9_init_28 : decode cX9_init 28 = .ok (.putfield 21, 3) := by decide +kernel
theorem dX9_init_31 : decode cX9_init 31 = .ok (.aload_n 0, 1) := by decide +kernel
theorem dX9_init_32 : decode cX9_init 32 = .ok (.new 25, 3) := by decide +kernel
theorem dX9_init_35 : decode cX9_init 35 = .ok (.dup, 1) := by decide +kernel
theorem dX9_init_36 : decode cX9_init 36 = .ok (.invokespecial 27, 3) := by decide +kernel
theorem dX9_init_39 : decode cX9_init 39 = .ok (.putfield 28, 3) := by decide +kernel
theorem dX9_init_42 : decode cX9_init 42 = .ok (.aload_n 0, 1) := by decide +kernel
theorem dX9_init_43 : decode cX9_init 43 = .ok (.new 32, 3) := by decide +kernel
theorem dX9_init_46 : decode cX9_init 46 = .ok (.dup, 1) := by decide +kernel
theorem dX9_init_47 : decode cX9_init 47 = .ok (.invokespecial 34, 3) := by decide +kernel
theorem dX9_init_50 : decode cX9_init 50 = .ok (.putfield 35, 3) := by decide +kernel
theorem dX9_init_53 : decode cX9_init 53 = .ok (.aload_n 0, 1) := by decide +kernel
theorem dX9_init_54 : decode cX9_init 54 = .ok (.new 39, 3) := by decide +kernel
theorem dX9_init_57 : decode cX9_init 57 = .ok (.dup, 1) := by decide +kernel
theorem dX9_init_58 : decode cX9_init 58 = .ok (.invokespecial 41, 3) := by decide +kernel
theorem dX9_init_61 : decode cX9_init 61 = .ok (.putfield 42, 3) := by decide +kernel
theorem dX9_init_64 : decode cX9_init 64 = .ok (.aload_n 0, 1) := by decide +kernel
theorem dX9_init_65 : decode cX9_init 65 = .ok (.new 46, 3) := by decide +kernel
theorem dX9_init_68 : decode cX9_init 68 = .ok (.dup, 1) := by decide +kernel
theorem dX9_init_69 : decode cX9_init 69 = .ok (.invokespecial 48, 3) := by decide +kernel
theorem dX9_init_72 : decode cX9_init 72 = .ok (.putfield 49, 3) := by decide +kernel
theorem dX9_init_75 : decode cX9_init 75 = .ok (.aload_n 0, 1) := by decide +kernel
theorem dX9_init_76 : decode cX9_init 76 = .ok (.new 53, 3) := by decide +kernel
theorem dX9_init_79 : decode cX9_init 79 = .ok (.dup, 1) := by decide +kernel
theorem dX9_init_80 : decode cX9_init 80 = .ok (.invokespecial 55, 3) := by decide +kernel
theorem dX9_init_83 : decode cX9_init 83 = .ok (.putfield 56, 3) := by decide +kernel
theorem dX9_init_86 : decode cX9_init 86 = .ok (.aload_n 0, 1) := by decide +kernel
theorem dX9_init_87 : decode cX9_init 87 = .ok (.bipush 6, 2) := by decide +kernel
theorem dX9_init_89 : decode cX9_init 89 = .ok (.anewarray 60, 3) := by decide +kernel
theorem dX9_init_92 : decode cX9_init 92 = .ok (.putfield 62, 3) := by decide +kernel
theorem dX9_init_95 : decode cX9_init 95 = .ok (.iconst 0, 1) := by decide +kernel
theorem dX9_init_96 : decode cX9_init 96 = .ok (.istore_n 1, 1) := by decide +kernel
theorem dX9_init_97 : decode cX9_init 97 = .ok (.iload_n 1, 1) := by decide +kernel
theorem dX9_init_98 : decode cX9_init 98 = .ok (.aload_n 0, 1) := by decide +kernel
theorem dX9_init_99 : decode cX9_init 99 = .ok (.getfield 62, 3) := by decide +kernel
theorem dX9_init_102 : decode cX9_init 102 = .ok (.arraylength, 1) := by decide +kernel
theorem dX9_init_103 : decode cX9_init 103 = .ok (.if_icmp .ge 22, 3) := by decide +kernel
theorem dX9_init_106 : decode cX9_init 106 = .ok (.aload_n 0, 1) := by decide +kernel
theorem dX9_init_107 : decode cX9_init 107 = .ok (.getfield 62, 3) := by decide +kernel
theorem dX9_init_110 : decode cX9_init 110 = .ok (.iload_n 1, 1) := by decide +kernel
theorem dX9_init_111 : decode cX9_init 111 = .ok (.new 60, 3) := by decide +kernel
theorem dX9_init_114 : decode cX9_init 114 = .ok (.dup, 1) := by decide +kernel
theorem dX9_init_115 : decode cX9_init 115 = .ok (.invokespecial 66, 3) := by decide +kernel
theorem dX9_init_118 : decode cX9_init 118 = .ok (.aastore, 1) := by decide +kernel
theorem dX9_init_119 : decode cX9_init 119 = .ok (.iinc 1 1, 3) := by decide +kernel
theorem dX9_init_122 : decode cX9_init 122 = .ok (.goto (-25), 3) := by decide +kernel
theorem dX9_init_125 : decode cX9_init 125 = .ok (.return_, 1) := by decide +kernel
theorem dX9_degree_0 : decode cX9_degree 0 = .ok (.iload_n 1, 1) := by decide +kernel
theorem dX9_degree_1 : decode cX9_degree 1 = .ok (.iconst 2, 1) := by decide +kernel
theorem dX9_degree_2 : decode cX9_degree 2 = .ok (.iconst 4, 1) := by decide +kernel
theorem dX9_degree_3 : decode cX9_degree 3 = .ok (.invokestatic 67, 3) := by decide +kernel
theorem dX9_degree_6 : decode cX9_degree 6 = .ok (.ifCond .ne 6, 3) := by decide +kernel
theorem dX9_degree_9 : decode cX9_degree 9 = .ok (.bipush (-2), 2) := by decide +kernel
theorem dX9_degree_11 : decode cX9_degree 11 = .ok (.ireturn, 1) := by decide +kernel
theorem dX9_degree_12 : decode cX9_degree 12 = .ok (.aload_n 0, 1) := by decide +kernel
theorem dX9_degree_13 : decode cX9_degree 13 = .ok (.getfield 12, 3) := by decide +kernel
theorem dX9_degree_16 : decode cX9_degree 16 = .ok (.getfield 71, 3) := by decide +kernel
theorem dX9_degree_19 : decode cX9_degree 19 = .ok (.getfield 74, 3) := by decide +kernel
theorem dX9_degree_22 : decode cX9_degree 22 = .ok (.getfield 78, 3) := by decide +kernel
theorem dX9_degree_25 : decode cX9_degree 25 = .ok (.istore_n 2, 1) := by decide +kernel
theorem dX9_degree_26 : decode cX9_degree 26 = .ok (.aload_n 0, 1) := by decide +kernel
theorem dX9_degree_27 : decode cX9_degree 27 = .ok (.getfield 12, 3) := by decide +kernel
theorem dX9_degree_30 : decode cX9_degree 30 = .ok (.getfield 71, 3) := by decide +kernel
theorem dX9_degree_33 : decode cX9_degree 33 = .ok (.getfield 74, 3) := by decide +kernel
theorem dX9_degree_36 : decode cX9_degree 36 = .ok (.iload_n 1, 1) := by decide +kernel
theorem dX9_degree_37 : decode cX9_degree 37 = .ok (.invokevirtual 84, 3) := by decide +kernel
theorem dX9_degree_40 : decode cX9_degree 40 = .ok (.iload_n 2, 1) := by decide +kernel
theorem dX9_degree_41 : decode cX9_degree 41 = .ok (.ireturn, 1) := by decide +kernel
theorem dX9_number_0 : decode cX9_number 0 = .ok (.aload_n 0, 1) := by decide +kernel
theorem dX9_number_1 : decode cX9_number 1 = .ok (.getfield 12, 3) := by decide +kernel
theorem dX9_number_4 : decode cX9_number 4 = .ok (.getfield 71, 3) := by decide +kernel
theorem dX9_number_7 : decode cX9_number 7 = .ok (.getfield 74, 3) := by decide +kernel
theorem dX9_number_10 : decode cX9_number 10 = .ok (.astore_n 3, 1) := by decide +kernel
theorem dX9_number_11 : decode cX9_number 11 = .ok (.aload_n 3, 1) := by decide +kernel
theorem dX9_number_12 : decode cX9_number 12 = .ok (.iload_n 1, 1) := by decide +kernel
theorem dX9_number_13 : decode cX9_number 13 = .ok (.invokevirtual 88, 3) := by decide +kernel
theorem dX9_number_16 : decode cX9_number 16 = .ok (.ifCond .ne 5, 3) := by decide +kernel
theorem dX9_number_19 : decode cX9_number 19 = .ok (.iconst (-1), 1) := by decide +kernel
theorem dX9_number_20 : decode cX9_number 20 = .ok (.ireturn, 1) := by decide +kernel
theorem dX9_number_21 : decode cX9_number 21 = .ok (.iload_n 2, 1) := by decide +kernel
theorem dX9_number_22 : decode cX9_number 22 = .ok (.bipush (-99), 2) := by decide +kernel
theorem dX9_number_24 : decode cX9_number 24 = .ok (.bipush 99, 2) := by decide +kernel
theorem dX9_number_26 : decode cX9_number 26 = .ok (.invokestatic 67, 3) := by decide +kernel
theorem dX9_number_29 : decode cX9_number 29 = .ok (.ifCond .ne 6, 3) := by decide +kernel
theorem dX9_number_32 : decode cX9_number 32 = .ok (.bipush (-2), 2) := by decide +kernel
theorem dX9_number_34 : decode cX9_number 34 = .ok (.ireturn, 1) := by decide +kernel
theorem dX9_number_35 : decode cX9_number 35 = .ok (.aload_n 3, 1) := by decide +kernel
theorem dX9_number_36 : decode cX9_number 36 = .ok (.iload_n 1, 1) := by decide +kernel
theorem dX9_number_37 : decode cX9_number 37 = .ok (.invokevirtual 92, 3) := by decide +kernel
theorem dX9_number_40 : decode cX9_number 40 = .ok (.istore 4, 2) := by decide +kernel
theorem dX9_number_42 : decode cX9_number 42 = .ok (.aload_n 3, 1) := by decide +kernel
theorem dX9_number_43 : decode cX9_number 43 = .ok (.iload_n 1, 1) := by decide +kernel
theorem dX9_number_44 : decode cX9_number 44 = .ok (.iload_n 2, 1) := by decide +kernel
theorem dX9_number_45 : decode cX9_number 45 = .ok (.invokevirtual 96, 3) := by decide +kernel
theorem dX9_number_48 : decode cX9_number 48 = .ok (.iload 4, 2) := by decide +kernel
theorem dX9_number_50 : decode cX9_number 50 = .ok (.bipush 100, 2) := by decide +kernel
theorem dX9_number_52 : decode cX9_number 52 = .ok (.iadd, 1) := by decide +kernel
theorem dX9_number_53 : decode cX9_number 53 = .ok (.ireturn, 1) := by decide +kernel
theorem dX9_equal_0 : decode cX9_equal 0 = .ok (.iload_n 1, 1) := by decide +kernel
theorem dX9_equal_1 : decode cX9_equal 1 = .ok (.sipush (-9999), 3) := by decide +kernel
theorem dX9_equal_4 : decode cX9_equal 4 = .ok (.sipush 9999, 3) := by decide +kernel
theorem dX9_equal_7 : decode cX9_equal 7 = .ok (.invokestatic 67, 3) := by decide +kernel
theorem dX9_equal_10 : decode cX9_equal 10 = .ok (.ifCond .ne 6, 3) := by decide +kernel
theorem dX9_equal_13 : decode cX9_equal 13 = .ok (.bipush (-2), 2) := by decide +kernel
theorem dX9_equal_15 : decode cX9_equal 15 = .ok (.ireturn, 1) := by decide +kernel
theorem dX9_equal_16 : decode cX9_equal 16 = .ok (.aload_n 0, 1) := by decide +kernel
theorem dX9_equal_17 : decode cX9_equal 17 = .ok (.getfield 12, 3) := by decide +kernel
theorem dX9_equal_20 : decode cX9_equal 20 = .ok (.getfield 71, 3) := by decide +kernel
theorem dX9_equal_23 : decode cX9_equal 23 = .ok (.getfield 100, 3) := by decide +kernel
theorem dX9_equal_26 : decode cX9_equal 26 = .ok (.istore_n 2, 1) := by decide +kernel
theorem dX9_equal_27 : decode cX9_equal 27 = .ok (.aload_n 0, 1) := by decide +kernel
theorem dX9_equal_28 : decode cX9_equal 28 = .ok (.getfield 12, 3) := by decide +kernel
theorem dX9_equal_31 : decode cX9_equal 31 = .ok (.getfield 71, 3) := by decide +kernel
theorem dX9_equal_34 : decode cX9_equal 34 = .ok (.iload_n 1, 1) := by decide +kernel
theorem dX9_equal_35 : decode cX9_equal 35 = .ok (.putfield 100, 3) := by decide +kernel
theorem dX9_equal_38 : decode cX9_equal 38 = .ok (.iload_n 2, 1) := by decide +kernel
theorem dX9_equal_39 : decode cX9_equal 39 = .ok (.sipush 10000, 3) := by decide +kernel
theorem dX9_equal_42 : decode cX9_equal 42 = .ok (.iadd, 1) := by decide +kernel
theorem dX9_equal_43 : decode cX9_equal 43 = .ok (.ireturn, 1) := by decide +kernel
theorem dX9_window_0 : decode cX9_window 0 = .ok (.iload_n 1, 1) := by decide +kernel
theorem dX9_window_1 : decode cX9_window 1 = .ok (.iconst 1, 1) := by decide +kernel
theorem dX9_window_2 : decode cX9_window 2 = .ok (.bipush 40, 2) := by decide +kernel
theorem dX9_window_4 : decode cX9_window 4 = .ok (.invokestatic 67, 3) := by decide +kernel
theorem dX9_window_7 : decode cX9_window 7 = .ok (.ifCond .ne 6, 3) := by decide +kernel
theorem dX9_window_10 : decode cX9_window 10 = .ok (.bipush (-2), 2) := by decide +kernel
theorem dX9_window_12 : decode cX9_window 12 = .ok (.ireturn, 1) := by decide +kernel
theorem dX9_window_13 : decode cX9_window 13 = .ok (.aload_n 0, 1) := by decide +kernel
theorem dX9_window_14 : decode cX9_window 14 = .ok (.getfield 12, 3) := by decide +kernel
theorem dX9_window_17 : decode cX9_window 17 = .ok (.getfield 71, 3) := by decide +kernel
theorem dX9_window_20 : decode cX9_window 20 = .ok (.getfield 103, 3) := by decide +kernel
theorem dX9_window_23 : decode cX9_window 23 = .ok (.istore_n 2, 1) := by decide +kernel
theorem dX9_window_24 : decode cX9_window 24 = .ok (.aload_n 0, 1) := by decide +kernel
theorem dX9_window_25 : decode cX9_window 25 = .ok (.getfield 12, 3) := by decide +kernel
theorem dX9_window_28 : decode cX9_window 28 = .ok (.getfield 71, 3) := by decide +kernel
theorem dX9_window_31 : decode cX9_window 31 = .ok (.iload_n 1, 1) := by decide +kernel
theorem dX9_window_32 : decode cX9_window 32 = .ok (.putfield 103, 3) := by decide +kernel
theorem dX9_window_35 : decode cX9_window 35 = .ok (.iload_n 2, 1) := by decide +kernel
theorem dX9_window_36 : decode cX9_window 36 = .ok (.ireturn, 1) := by decide +kernel
theorem dX9_move_0 : decode cX9_move 0 = .ok (.iload_n 1, 1) := by decide +kernel
theorem dX9_move_1 : decode cX9_move 1 = .ok (.invokestatic 106, 3) := by decide +kernel
theorem dX9_move_4 : decode cX9_move 4 = .ok (.ifCond .ne 5, 3) := by decide +kernel
theorem dX9_move_7 : decode cX9_move 7 = .ok (.iconst (-1), 1) := by decide +kernel
theorem dX9_move_8 : decode cX9_move 8 = .ok (.ireturn, 1) := by decide +kernel
theorem dX9_move_9 : decode cX9_move 9 = .ok (.aload_n 0, 1) := by decide +kernel
theorem dX9_move_10 : decode cX9_move 10 = .ok (.getfield 12, 3) := by decide +kernel
theorem dX9_move_13 : decode cX9_move 13 = .ok (.getfield 71, 3) := by decide +kernel
theorem dX9_move_16 : decode cX9_move 16 = .ok (.getfield 74, 3) := by decide +kernel
theorem dX9_move_19 : decode cX9_move 19 = .ok (.iload_n 1, 1) := by decide +kernel
theorem dX9_move_20 : decode cX9_move 20 = .ok (.invokevirtual 109, 3) := by decide +kernel
theorem dX9_move_23 : decode cX9_move 23 = .ok (.ifCond .eq 7, 3) := by decide +kernel
theorem dX9_move_26 : decode cX9_move 26 = .ok (.iconst 1, 1) := by decide +kernel
theorem dX9_move_27 : decode cX9_move 27 = .ok (.goto 5, 3) := by decide +kernel
theorem dX9_move_30 : decode cX9_move 30 = .ok (.bipush (-3), 2) := by decide +kernel
theorem dX9_move_32 : decode cX9_move 32 = .ok (.ireturn, 1) := by decide +kernel
theorem dX9_turn_0 : decode cX9_turn 0 = .ok (.iload_n 1, 1) := by decide +kernel
theorem dX9_turn_1 : decode cX9_turn 1 = .ok (.invokestatic 112, 3) := by decide +kernel
theorem dX9_turn_4 : decode cX9_turn 4 = .ok (.ifCond .eq 25, 3) := by decide +kernel
theorem dX9_turn_7 : decode cX9_turn 7 = .ok (.iload_n 2, 1) := by decide +kernel
theorem dX9_turn_8 : decode cX9_turn 8 = .ok (.invokestatic 112, 3) := by decide +kernel
theorem dX9_turn_11 : decode cX9_turn 11 = .ok (.ifCond .eq 18, 3) := by decide +kernel
theorem dX9_turn_14 : decode cX9_turn 14 = .ok (.iload_n 3, 1) := by decide +kernel
theorem dX9_turn_15 : decode cX9_turn 15 = .ok (.invokestatic 112, 3) := by decide +kernel
theorem dX9_turn_18 : decode cX9_turn 18 = .ok (.ifCond .eq 11, 3) := by decide +kernel
theorem dX9_turn_21 : decode cX9_turn 21 = .ok (.iload 4, 2) := by decide +kernel
theorem dX9_turn_23 : decode cX9_turn 23 = .ok (.invokestatic 112, 3) := by decide +kernel
theorem dX9_turn_26 : decode cX9_turn 26 = .ok (.ifCond .ne 6, 3) := by decide +kernel
theorem dX9_turn_29 : decode cX9_turn 29 = .ok (.bipush (-2), 2) := by decide +kernel
theorem dX9_turn_31 : decode cX9_turn 31 = .ok (.ireturn, 1) := by decide +kernel
theorem dX9_turn_32 : decode cX9_turn 32 = .ok (.aload_n 0, 1) := by decide +kernel
theorem dX9_turn_33 : decode cX9_turn 33 = .ok (.getfield 12, 3) := by decide +kernel
theorem dX9_turn_36 : decode cX9_turn 36 = .ok (.getfield 71, 3) := by decide +kernel
theorem dX9_turn_39 : decode cX9_turn 39 = .ok (.getfield 74, 3) := by decide +kernel
theorem dX9_turn_42 : decode cX9_turn 42 = .ok (.iload_n 1, 1) := by decide +kernel
theorem dX9_turn_43 : decode cX9_turn 43 = .ok (.iload_n 2, 1) := by decide +kernel
theorem dX9_turn_44 : decode cX9_turn 44 = .ok (.iload_n 3, 1) := by decide +kernel
theorem dX9_turn_45 : decode cX9_turn 45 = .ok (.iload 4, 2) := by decide +kernel
theorem dX9_turn_47 : decode cX9_turn 47 = .ok (.invokevirtual 115, 3) := by decide +kernel
theorem dX9_turn_50 : decode cX9_turn 50 = .ok (.ifCond .eq 7, 3) := by decide +kernel
theorem dX9_turn_53 : decode cX9_turn 53 = .ok (.iconst 1, 1) := by decide +kernel
theorem dX9_turn_54 : decode cX9_turn 54 = .ok (.goto 5, 3) := by decide +kernel
theorem dX9_turn_57 : decode cX9_turn 57 = .ok (.bipush (-3), 2) := by decide +kernel
theorem dX9_turn_59 : decode cX9_turn 59 = .ok (.ireturn, 1) := by decide +kernel
theorem dX9_feed_0 : decode cX9_feed 0 = .ok (.iload_n 1, 1) := by decide +kernel
theorem dX9_feed_1 : decode cX9_feed 1 = .ok (.iconst 0, 1) := by decide +kernel
theorem dX9_feed_2 : decode cX9_feed 2 = .ok (.bipush 127, 2) := by decide +kernel
theorem dX9_feed_4 : decode cX9_feed 4 = .ok (.invokestatic 67, 3) := by decide +kernel
theorem dX9_feed_7 : decode cX9_feed 7 = .ok (.ifCond .ne 6, 3) := by decide +kernel
theorem dX9_feed_10 : decode cX9_feed 10 = .ok (.bipush (-2), 2) := by decide +kernel
theorem dX9_feed_12 : decode cX9_feed 12 = .ok (.ireturn, 1) := by decide +kernel
theorem dX9_feed_13 : decode cX9_feed 13 = .ok (.aload_n 0, 1) := by decide +kernel
theorem dX9_feed_14 : decode cX9_feed 14 = .ok (.getfield 56, 3) := by decide +kernel
theorem dX9_feed_17 : decode cX9_feed 17 = .ok (.iload_n 1, 1) := by decide +kernel
theorem dX9_feed_18 : decode cX9_feed 18 = .ok (.invokevirtual 119, 3) := by decide +kernel
theorem dX9_feed_21 : decode cX9_feed 21 = .ok (.ifCond .eq 13, 3) := by decide +kernel
theorem dX9_feed_24 : decode cX9_feed 24 = .ok (.aload_n 0, 1) := by decide +kernel
theorem dX9_feed_25 : decode cX9_feed 25 = .ok (.getfield 56, 3) := by decide +kernel
theorem dX9_feed_28 : decode cX9_feed 28 = .ok (.getfield 122, 3) := by decide +kernel
theorem dX9_feed_31 : decode cX9_feed 31 = .ok (.goto 5, 3) := by decide +kernel
theorem dX9_feed_34 : decode cX9_feed 34 = .ok (.bipush (-4), 2) := by decide +kernel
theorem dX9_feed_36 : decode cX9_feed 36 = .ok (.ireturn, 1) := by decide +kernel
theorem dX9_read_0 : decode cX9_read 0 = .ok (.aload_n 0, 1) := by decide +kernel
theorem dX9_read_1 : decode cX9_read 1 = .ok (.getfield 56, 3) := by decide +kernel
theorem dX9_read_4 : decode cX9_read 4 = .ok (.invokevirtual 125, 3) := by decide +kernel
theorem dX9_read_7 : decode cX9_read 7 = .ok (.istore_n 1, 1) := by decide +kernel
theorem dX9_read_8 : decode cX9_read 8 = .ok (.aload_n 0, 1) := by decide +kernel
theorem dX9_read_9 : decode cX9_read 9 = .ok (.getfield 56, 3) := by decide +kernel
theorem dX9_read_12 : decode cX9_read 12 = .ok (.iconst 0, 1) := by decide +kernel
theorem dX9_read_13 : decode cX9_read 13 = .ok (.putfield 122, 3) := by decide +kernel
theorem dX9_read_16 : decode cX9_read 16 = .ok (.iload_n 1, 1) := by decide +kernel
theorem dX9_read_17 : decode cX9_read 17 = .ok (.iconst (-1), 1) := by decide +kernel
theorem dX9_read_18 : decode cX9_read 18 = .ok (.if_icmp .eq 8, 3) := by decide +kernel
theorem dX9_read_21 : decode cX9_read 21 = .ok (.bipush (-10), 2) := by decide +kernel
theorem dX9_read_23 : decode cX9_read 23 = .ok (.iload_n 1, 1) := by decide +kernel
theorem dX9_read_24 : decode cX9_read 24 = .ok (.isub, 1) := by decide +kernel
theorem dX9_read_25 : decode cX9_read 25 = .ok (.ireturn, 1) := by decide +kernel
theorem dX9_read_26 : decode cX9_read 26 = .ok (.iconst 0, 1) := by decide +kernel
theorem dX9_read_27 : decode cX9_read 27 = .ok (.istore_n 2, 1) := by decide +kernel
theorem dX9_read_28 : decode cX9_read 28 = .ok (.iconst 0, 1) := by decide +kernel
theorem dX9_read_29 : decode cX9_read 29 = .ok (.istore_n 3, 1) := by decide +kernel
theorem dX9_read_30 : decode cX9_read 30 = .ok (.iload_n 3, 1) := by decide +kernel
theorem dX9_read_31 : decode cX9_read 31 = .ok (.aload_n 0, 1) := by decide +kernel
theorem dX9_read_32 : decode cX9_read 32 = .ok (.getfield 56, 3) := by decide +kernel
theorem dX9_read_35 : decode cX9_read 35 = .ok (.getfield 129, 3) := by decide +kernel
theorem dX9_read_38 : decode cX9_read 38 = .ok (.getfield 133, 3) := by decide +kernel
theorem dX9_read_41 : decode cX9_read 41 = .ok (.if_icmp .ge 20, 3) := by decide +kernel
theorem dX9_read_44 : decode cX9_read 44 = .ok (.aload_n 0, 1) := by decide +kernel
theorem dX9_read_45 : decode cX9_read 45 = .ok (.iload_n 3, 1) := by decide +kernel
theorem dX9_read_46 : decode cX9_read 46 = .ok (.invokevirtual 136, 3) := by decide +kernel
theorem dX9_read_49 : decode cX9_read 49 = .ok (.ifCond .lt 6, 3) := by decide +kernel
theorem dX9_read_52 : decode cX9_read 52 = .ok (.iinc 2 1, 3) := by decide +kernel
theorem dX9_read_55 : decode cX9_read 55 = .ok (.iinc 3 1, 3) := by decide +kernel
theorem dX9_read_58 : decode cX9_read 58 = .ok (.goto (-28), 3) := by decide +kernel
theorem dX9_read_61 : decode cX9_read 61 = .ok (.iload_n 2, 1) := by decide +kernel
theorem dX9_read_62 : decode cX9_read 62 = .ok (.ireturn, 1) := by decide +kernel
theorem dX9_of_0 : decode cX9_of 0 = .ok (.aload_n 0, 1) := by decide +kernel
theorem dX9_of_1 : decode cX9_of 1 = .ok (.getfield 12, 3) := by decide +kernel
theorem dX9_of_4 : decode cX9_of 4 = .ok (.getfield 71, 3) := by decide +kernel
theorem dX9_of_7 : decode cX9_of 7 = .ok (.getfield 74, 3) := by decide +kernel
theorem dX9_of_10 : decode cX9_of 10 = .ok (.astore_n 2, 1) := by decide +kernel
theorem dX9_of_11 : decode cX9_of 11 = .ok (.aload_n 2, 1) := by decide +kernel
theorem dX9_of_12 : decode cX9_of 12 = .ok (.iload_n 1, 1) := by decide +kernel
theorem dX9_of_13 : decode cX9_of 13 = .ok (.invokevirtual 88, 3) := by decide +kernel
theorem dX9_of_16 : decode cX9_of 16 = .ok (.ifCond .eq 14, 3) := by decide +kernel
theorem dX9_of_19 : decode cX9_of 19 = .ok (.aload_n 2, 1) := by decide +kernel
theorem dX9_of_20 : decode cX9_of 20 = .ok (.iload_n 1, 1) := by decide +kernel
theorem dX9_of_21 : decode cX9_of 21 = .ok (.invokevirtual 92, 3) := by decide +kernel
theorem dX9_of_24 : decode cX9_of 24 = .ok (.bipush 100, 2) := by decide +kernel
theorem dX9_of_26 : decode cX9_of 26 = .ok (.iadd, 1) := by decide +kernel
theorem dX9_of_27 : decode cX9_of 27 = .ok (.goto 4, 3) := by decide +kernel
theorem dX9_of_30 : decode cX9_of 30 = .ok (.iconst (-1), 1) := by decide +kernel
theorem dX9_of_31 : decode cX9_of 31 = .ok (.ireturn, 1) := by decide +kernel
theorem dX9_told_0 : decode cX9_told 0 = .ok (.iload_n 1, 1) := by decide +kernel
theorem dX9_told_1 : decode cX9_told 1 = .ok (.tableswitch 124 0 7 #[47, 61, 76, 87, 95, 103, 111, 119], 47) := by decide +kernel
theorem dX9_told_48 : decode cX9_told 48 = .ok (.aload_n 0, 1) := by decide +kernel
theorem dX9_told_49 : decode cX9_told 49 = .ok (.getfield 12, 3) := by decide +kernel
theorem dX9_told_52 : decode cX9_told 52 = .ok (.getfield 71, 3) := by decide +kernel
theorem dX9_told_55 : decode cX9_told 55 = .ok (.getfield 74, 3) := by decide +kernel
theorem dX9_told_58 : decode cX9_told 58 = .ok (.getfield 78, 3) := by decide +kernel
theorem dX9_told_61 : decode cX9_told 61 = .ok (.ireturn, 1) := by decide +kernel
theorem dX9_told_62 : decode cX9_told 62 = .ok (.aload_n 0, 1) := by decide +kernel
theorem dX9_told_63 : decode cX9_told 63 = .ok (.getfield 12, 3) := by decide +kernel
theorem dX9_told_66 : decode cX9_told 66 = .ok (.getfield 71, 3) := by decide +kernel
theorem dX9_told_69 : decode cX9_told 69 = .ok (.getfield 100, 3) := by decide +kernel
theorem dX9_told_72 : decode cX9_told 72 = .ok (.sipush 10000, 3) := by decide +kernel
theorem dX9_told_75 : decode cX9_told 75 = .ok (.iadd, 1) := by decide +kernel
theorem dX9_told_76 : decode cX9_told 76 = .ok (.ireturn, 1) := by decide +kernel
theorem dX9_told_77 : decode cX9_told 77 = .ok (.aload_n 0, 1) := by decide +kernel
theorem dX9_told_78 : decode cX9_told 78 = .ok (.getfield 12, 3) := by decide +kernel
theorem dX9_told_81 : decode cX9_told 81 = .ok (.getfield 71, 3) := by decide +kernel
theorem dX9_told_84 : decode cX9_told 84 = .ok (.getfield 103, 3) := by decide +kernel
theorem dX9_told_87 : decode cX9_told 87 = .ok (.ireturn, 1) := by decide +kernel
theorem dX9_told_88 : decode cX9_told 88 = .ok (.aload_n 0, 1) := by decide +kernel
theorem dX9_told_89 : decode cX9_told 89 = .ok (.invokevirtual 139, 3) := by decide +kernel
theorem dX9_told_92 : decode cX9_told 92 = .ok (.getfield 143, 3) := by decide +kernel
theorem dX9_told_95 : decode cX9_told 95 = .ok (.ireturn, 1) := by decide +kernel
theorem dX9_told_96 : decode cX9_told 96 = .ok (.aload_n 0, 1) := by decide +kernel
theorem dX9_told_97 : decode cX9_told 97 = .ok (.invokevirtual 144, 3) := by decide +kernel
theorem dX9_told_100 : decode cX9_told 100 = .ok (.getfield 148, 3) := by decide +kernel
theorem dX9_told_103 : decode cX9_told 103 = .ok (.ireturn, 1) := by decide +kernel
theorem dX9_told_104 : decode cX9_told 104 = .ok (.aload_n 0, 1) := by decide +kernel
theorem dX9_told_105 : decode cX9_told 105 = .ok (.invokevirtual 149, 3) := by decide +kernel
theorem dX9_told_108 : decode cX9_told 108 = .ok (.getfield 152, 3) := by decide +kernel
theorem dX9_told_111 : decode cX9_told 111 = .ok (.ireturn, 1) := by decide +kernel
theorem dX9_told_112 : decode cX9_told 112 = .ok (.aload_n 0, 1) := by decide +kernel
theorem dX9_told_113 : decode cX9_told 113 = .ok (.invokevirtual 155, 3) := by decide +kernel
theorem dX9_told_116 : decode cX9_told 116 = .ok (.getfield 159, 3) := by decide +kernel
theorem dX9_told_119 : decode cX9_told 119 = .ok (.ireturn, 1) := by decide +kernel
theorem dX9_told_120 : decode cX9_told 120 = .ok (.aload_n 0, 1) := by decide +kernel
theorem dX9_told_121 : decode cX9_told 121 = .ok (.invokevirtual 160, 3) := by decide +kernel
theorem dX9_told_124 : decode cX9_told 124 = .ok (.ireturn, 1) := by decide +kernel
theorem dX9_told_125 : decode cX9_told 125 = .ok (.iconst (-1), 1) := by decide +kernel
theorem dX9_told_126 : decode cX9_told 126 = .ok (.ireturn, 1) := by decide +kernel
theorem dX9_value_0 : decode cX9_value 0 = .ok (.iload_n 1, 1) := by decide +kernel
theorem dX9_value_1 : decode cX9_value 1 = .ok (.sipush (-999), 3) := by decide +kernel
theorem dX9_value_4 : decode cX9_value 4 = .ok (.sipush 999, 3) := by decide +kernel
theorem dX9_value_7 : decode cX9_value 7 = .ok (.invokestatic 67, 3) := by decide +kernel
theorem dX9_value_10 : decode cX9_value 10 = .ok (.ifCond .ne 7, 3) := by decide +kernel
theorem dX9_value_13 : decode cX9_value 13 = .ok (.ldc2_w 163, 3) := by decide +kernel
theorem dX9_value_16 : decode cX9_value 16 = .ok (.lreturn, 1) := by decide +kernel
theorem dX9_value_17 : decode cX9_value 17 = .ok (.iload_n 2, 1) := by decide +kernel
theorem dX9_value_18 : decode cX9_value 18 = .ok (.sipush (-999), 3) := by decide +kernel
theorem dX9_value_21 : decode cX9_value 21 = .ok (.sipush 999, 3) := by decide +kernel
theorem dX9_value_24 : decode cX9_value 24 = .ok (.invokestatic 67, 3) := by decide +kernel
theorem dX9_value_27 : decode cX9_value 27 = .ok (.ifCond .ne 7, 3) := by decide +kernel
theorem dX9_value_30 : decode cX9_value 30 = .ok (.ldc2_w 163, 3) := by decide +kernel
theorem dX9_value_33 : decode cX9_value 33 = .ok (.lreturn, 1) := by decide +kernel
theorem dX9_value_34 : decode cX9_value 34 = .ok (.aload_n 0, 1) := by decide +kernel
theorem dX9_value_35 : decode cX9_value 35 = .ok (.getfield 12, 3) := by decide +kernel
theorem dX9_value_38 : decode cX9_value 38 = .ok (.getfield 71, 3) := by decide +kernel
theorem dX9_value_41 : decode cX9_value 41 = .ok (.getfield 74, 3) := by decide +kernel
theorem dX9_value_44 : decode cX9_value 44 = .ok (.iload_n 1, 1) := by decide +kernel
theorem dX9_value_45 : decode cX9_value 45 = .ok (.i2l, 1) := by decide +kernel
theorem dX9_value_46 : decode cX9_value 46 = .ok (.iload_n 2, 1) := by decide +kernel
theorem dX9_value_47 : decode cX9_value 47 = .ok (.i2l, 1) := by decide +kernel
theorem dX9_value_48 : decode cX9_value 48 = .ok (.invokevirtual 165, 3) := by decide +kernel
theorem dX9_value_51 : decode cX9_value 51 = .ok (.lreturn, 1) := by decide +kernel
theorem dX9_answer_0 : decode cX9_answer 0 = .ok (.iload_n 1, 1) := by decide +kernel
theorem dX9_answer_1 : decode cX9_answer 1 = .ok (.ifCond .lt 12, 3) := by decide +kernel
theorem dX9_answer_4 : decode cX9_answer 4 = .ok (.iload_n 2, 1) := by decide +kernel
theorem dX9_answer_5 : decode cX9_answer 5 = .ok (.iconst 0, 1) := by decide +kernel
theorem dX9_answer_6 : decode cX9_answer 6 = .ok (.iconst 2, 1) := by decide +kernel
theorem dX9_answer_7 : decode cX9_answer 7 = .ok (.invokestatic 67, 3) := by decide +kernel
theorem dX9_answer_10 : decode cX9_answer 10 = .ok (.ifCond .ne 5, 3) := by decide +kernel
theorem dX9_answer_13 : decode cX9_answer 13 = .ok (.iconst (-1), 1) := by decide +kernel
theorem dX9_answer_14 : decode cX9_answer 14 = .ok (.ireturn, 1) := by decide +kernel
theorem dX9_answer_15 : decode cX9_answer 15 = .ok (.iload_n 2, 1) := by decide +kernel
theorem dX9_answer_16 : decode cX9_answer 16 = .ok (.iconst 2, 1) := by decide +kernel
theorem dX9_answer_17 : decode cX9_answer 17 = .ok (.if_icmp .ne 10, 3) := by decide +kernel
theorem dX9_answer_20 : decode cX9_answer 20 = .ok (.aload_n 0, 1) := by decide +kernel
theorem dX9_answer_21 : decode cX9_answer 21 = .ok (.invokevirtual 149, 3) := by decide +kernel
theorem dX9_answer_24 : decode cX9_answer 24 = .ok (.goto 7, 3) := by decide +kernel
theorem dX9_answer_27 : decode cX9_answer 27 = .ok (.aload_n 0, 1) := by decide +kernel
theorem dX9_answer_28 : decode cX9_answer 28 = .ok (.invokevirtual 139, 3) := by decide +kernel
theorem dX9_answer_31 : decode cX9_answer 31 = .ok (.astore_n 3, 1) := by decide +kernel
theorem dX9_answer_32 : decode cX9_answer 32 = .ok (.aload_n 3, 1) := by decide +kernel
theorem dX9_answer_33 : decode cX9_answer 33 = .ok (.iload_n 1, 1) := by decide +kernel
theorem dX9_answer_34 : decode cX9_answer 34 = .ok (.invokevirtual 169, 3) := by decide +kernel
theorem dX9_answer_37 : decode cX9_answer 37 = .ok (.istore 4, 2) := by decide +kernel
theorem dX9_answer_39 : decode cX9_answer 39 = .ok (.iload 4, 2) := by decide +kernel
theorem dX9_answer_41 : decode cX9_answer 41 = .ok (.ifCond .ge 6, 3) := by decide +kernel
theorem dX9_answer_44 : decode cX9_answer 44 = .ok (.bipush (-5), 2) := by decide +kernel
theorem dX9_answer_46 : decode cX9_answer 46 = .ok (.ireturn, 1) := by decide +kernel
theorem dX9_answer_47 : decode cX9_answer 47 = .ok (.iload_n 2, 1) := by decide +kernel
theorem dX9_answer_48 : decode cX9_answer 48 = .ok (.ifCond .ne 12, 3) := by decide +kernel
theorem dX9_answer_51 : decode cX9_answer 51 = .ok (.iload 4, 2) := by decide +kernel
theorem dX9_answer_53 : decode cX9_answer 53 = .ok (.invokestatic 172, 3) := by decide +kernel
theorem dX9_answer_56 : decode cX9_answer 56 = .ok (.bipush 100, 2) := by decide +kernel
theorem dX9_answer_58 : decode cX9_answer 58 = .ok (.iadd, 1) := by decide +kernel
theorem dX9_answer_59 : decode cX9_answer 59 = .ok (.ireturn, 1) := by decide +kernel
theorem dX9_answer_60 : decode cX9_answer 60 = .ok (.iload_n 2, 1) := by decide +kernel
theorem dX9_answer_61 : decode cX9_answer 61 = .ok (.iconst 1, 1) := by decide +kernel
theorem dX9_answer_62 : decode cX9_answer 62 = .ok (.if_icmp .ne 12, 3) := by decide +kernel
theorem dX9_answer_65 : decode cX9_answer 65 = .ok (.iload 4, 2) := by decide +kernel
theorem dX9_answer_67 : decode cX9_answer 67 = .ok (.invokestatic 175, 3) := by decide +kernel
theorem dX9_answer_70 : decode cX9_answer 70 = .ok (.bipush 100, 2) := by decide +kernel
theorem dX9_answer_72 : decode cX9_answer 72 = .ok (.iadd, 1) := by decide +kernel
theorem dX9_answer_73 : decode cX9_answer 73 = .ok (.ireturn, 1) := by decide +kernel
theorem dX9_answer_74 : decode cX9_answer 74 = .ok (.aload_n 3, 1) := by decide +kernel
theorem dX9_answer_75 : decode cX9_answer 75 = .ok (.iload 4, 2) := by decide +kernel
theorem dX9_answer_77 : decode cX9_answer 77 = .ok (.invokevirtual 178, 3) := by decide +kernel
theorem dX9_answer_80 : decode cX9_answer 80 = .ok (.ireturn, 1) := by decide +kernel
theorem dX9_prime_0 : decode cX9_prime 0 = .ok (.iload_n 1, 1) := by decide +kernel
theorem dX9_prime_1 : decode cX9_prime 1 = .ok (.ifCond .lt 11, 3) := by decide +kernel
theorem dX9_prime_4 : decode cX9_prime 4 = .ok (.iload_n 1, 1) := by decide +kernel
theorem dX9_prime_5 : decode cX9_prime 5 = .ok (.getstatic 181, 3) := by decide +kernel
theorem dX9_prime_8 : decode cX9_prime 8 = .ok (.arraylength, 1) := by decide +kernel
theorem dX9_prime_9 : decode cX9_prime 9 = .ok (.if_icmp .lt 5, 3) := by decide +kernel
theorem dX9_prime_12 : decode cX9_prime 12 = .ok (.iconst (-1), 1) := by decide +kernel
theorem dX9_prime_13 : decode cX9_prime 13 = .ok (.ireturn, 1) := by decide +kernel
theorem dX9_prime_14 : decode cX9_prime 14 = .ok (.getstatic 181, 3) := by decide +kernel
theorem dX9_prime_17 : decode cX9_prime 17 = .ok (.iload_n 1, 1) := by decide +kernel
theorem dX9_prime_18 : decode cX9_prime 18 = .ok (.iaload, 1) := by decide +kernel
theorem dX9_prime_19 : decode cX9_prime 19 = .ok (.istore_n 3, 1) := by decide +kernel
theorem dX9_prime_20 : decode cX9_prime 20 = .ok (.iload_n 2, 1) := by decide +kernel
theorem dX9_prime_21 : decode cX9_prime 21 = .ok (.tableswitch 67 0 2 #[27, 29, 47], 27) := by decide +kernel
theorem dX9_prime_48 : decode cX9_prime 48 = .ok (.iload_n 3, 1) := by decide +kernel
theorem dX9_prime_49 : decode cX9_prime 49 = .ok (.ireturn, 1) := by decide +kernel
theorem dX9_prime_50 : decode cX9_prime 50 = .ok (.aload_n 0, 1) := by decide +kernel
theorem dX9_prime_51 : decode cX9_prime 51 = .ok (.getfield 12, 3) := by decide +kernel
theorem dX9_prime_54 : decode cX9_prime 54 = .ok (.getfield 71, 3) := by decide +kernel
theorem dX9_prime_57 : decode cX9_prime 57 = .ok (.getfield 74, 3) := by decide +kernel
theorem dX9_prime_60 : decode cX9_prime 60 = .ok (.iload_n 3, 1) := by decide +kernel
theorem dX9_prime_61 : decode cX9_prime 61 = .ok (.invokevirtual 185, 3) := by decide +kernel
theorem dX9_prime_64 : decode cX9_prime 64 = .ok (.invokestatic 188, 3) := by decide +kernel
theorem dX9_prime_67 : decode cX9_prime 67 = .ok (.ireturn, 1) := by decide +kernel
theorem dX9_prime_68 : decode cX9_prime 68 = .ok (.aload_n 0, 1) := by decide +kernel
theorem dX9_prime_69 : decode cX9_prime 69 = .ok (.getfield 12, 3) := by decide +kernel
theorem dX9_prime_72 : decode cX9_prime 72 = .ok (.getfield 71, 3) := by decide +kernel
theorem dX9_prime_75 : decode cX9_prime 75 = .ok (.iload_n 3, 1) := by decide +kernel
theorem dX9_prime_76 : decode cX9_prime 76 = .ok (.invokevirtual 193, 3) := by decide +kernel
theorem dX9_prime_79 : decode cX9_prime 79 = .ok (.ifCond .eq 7, 3) := by decide +kernel
theorem dX9_prime_82 : decode cX9_prime 82 = .ok (.iconst 1, 1) := by decide +kernel
theorem dX9_prime_83 : decode cX9_prime 83 = .ok (.goto 4, 3) := by decide +kernel
theorem dX9_prime_86 : decode cX9_prime 86 = .ok (.iconst 0, 1) := by decide +kernel
theorem dX9_prime_87 : decode cX9_prime 87 = .ok (.ireturn, 1) := by decide +kernel
theorem dX9_prime_88 : decode cX9_prime 88 = .ok (.iconst (-1), 1) := by decide +kernel
theorem dX9_prime_89 : decode cX9_prime 89 = .ok (.ireturn, 1) := by decide +kernel
theorem dX9_reason_0 : decode cX9_reason 0 = .ok (.iload_n 1, 1) := by decide +kernel
theorem dX9_reason_1 : decode cX9_reason 1 = .ok (.ifCond .ge 5, 3) := by decide +kernel
theorem dX9_reason_4 : decode cX9_reason 4 = .ok (.iconst (-1), 1) := by decide +kernel
theorem dX9_reason_5 : decode cX9_reason 5 = .ok (.ireturn, 1) := by decide +kernel
theorem dX9_reason_6 : decode cX9_reason 6 = .ok (.iload_n 1, 1) := by decide +kernel
theorem dX9_reason_7 : decode cX9_reason 7 = .ok (.iconst 2, 1) := by decide +kernel
theorem dX9_reason_8 : decode cX9_reason 8 = .ok (.if_icmp .gt 13, 3) := by decide +kernel
theorem dX9_reason_11 : decode cX9_reason 11 = .ok (.aload_n 0, 1) := by decide +kernel
theorem dX9_reason_12 : decode cX9_reason 12 = .ok (.invokevirtual 139, 3) := by decide +kernel
theorem dX9_reason_15 : decode cX9_reason 15 = .ok (.getfield 143, 3) := by decide +kernel
theorem dX9_reason_18 : decode cX9_reason 18 = .ok (.ifCond .le 6, 3) := by decide +kernel
theorem dX9_reason_21 : decode cX9_reason 21 = .ok (.bipush (-5), 2) := by decide +kernel
theorem dX9_reason_23 : decode cX9_reason 23 = .ok (.ireturn, 1) := by decide +kernel
theorem dX9_reason_24 : decode cX9_reason 24 = .ok (.iload_n 1, 1) := by decide +kernel
theorem dX9_reason_25 : decode cX9_reason 25 = .ok (.ifCond .ne 14, 3) := by decide +kernel
theorem dX9_reason_28 : decode cX9_reason 28 = .ok (.aload_n 0, 1) := by decide +kernel
theorem dX9_reason_29 : decode cX9_reason 29 = .ok (.getfield 12, 3) := by decide +kernel
theorem dX9_reason_32 : decode cX9_reason 32 = .ok (.getfield 71, 3) := by decide +kernel
theorem dX9_reason_35 : decode cX9_reason 35 = .ok (.getfield 103, 3) := by decide +kernel
theorem dX9_reason_38 : decode cX9_reason 38 = .ok (.ireturn, 1) := by decide +kernel
theorem dX9_reason_39 : decode cX9_reason 39 = .ok (.aload_n 0, 1) := by decide +kernel
theorem dX9_reason_40 : decode cX9_reason 40 = .ok (.getfield 12, 3) := by decide +kernel
theorem dX9_reason_43 : decode cX9_reason 43 = .ok (.getfield 71, 3) := by decide +kernel
theorem dX9_reason_46 : decode cX9_reason 46 = .ok (.invokevirtual 196, 3) := by decide +kernel
theorem dX9_reason_49 : decode cX9_reason 49 = .ok (.istore_n 2, 1) := by decide +kernel
theorem dX9_reason_50 : decode cX9_reason 50 = .ok (.iload_n 1, 1) := by decide +kernel
theorem dX9_reason_51 : decode cX9_reason 51 = .ok (.iconst 1, 1) := by decide +kernel
theorem dX9_reason_52 : decode cX9_reason 52 = .ok (.if_icmp .eq 9, 3) := by decide +kernel
theorem dX9_reason_55 : decode cX9_reason 55 = .ok (.iload_n 2, 1) := by decide +kernel
theorem dX9_reason_56 : decode cX9_reason 56 = .ok (.bipush (-5), 2) := by decide +kernel
theorem dX9_reason_58 : decode cX9_reason 58 = .ok (.if_icmp .ne 5, 3) := by decide +kernel
theorem dX9_reason_61 : decode cX9_reason 61 = .ok (.iload_n 2, 1) := by decide +kernel
theorem dX9_reason_62 : decode cX9_reason 62 = .ok (.ireturn, 1) := by decide +kernel
theorem dX9_reason_63 : decode cX9_reason 63 = .ok (.aload_n 0, 1) := by decide +kernel
theorem dX9_reason_64 : decode cX9_reason 64 = .ok (.getfield 12, 3) := by decide +kernel
theorem dX9_reason_67 : decode cX9_reason 67 = .ok (.getfield 71, 3) := by decide +kernel
theorem dX9_reason_70 : decode cX9_reason 70 = .ok (.getfield 74, 3) := by decide +kernel
theorem dX9_reason_73 : decode cX9_reason 73 = .ok (.iload_n 2, 1) := by decide +kernel
theorem dX9_reason_74 : decode cX9_reason 74 = .ok (.invokevirtual 185, 3) := by decide +kernel
theorem dX9_reason_77 : decode cX9_reason 77 = .ok (.invokestatic 188, 3) := by decide +kernel
theorem dX9_reason_80 : decode cX9_reason 80 = .ok (.ireturn, 1) := by decide +kernel
theorem dX9_unit_0 : decode cX9_unit 0 = .ok (.iload_n 1, 1) := by decide +kernel
theorem dX9_unit_1 : decode cX9_unit 1 = .ok (.ifCond .lt 12, 3) := by decide +kernel
theorem dX9_unit_4 : decode cX9_unit 4 = .ok (.iload_n 2, 1) := by decide +kernel
theorem dX9_unit_5 : decode cX9_unit 5 = .ok (.iconst 0, 1) := by decide +kernel
theorem dX9_unit_6 : decode cX9_unit 6 = .ok (.iconst 3, 1) := by decide +kernel
theorem dX9_unit_7 : decode cX9_unit 7 = .ok (.invokestatic 67, 3) := by decide +kernel
theorem dX9_unit_10 : decode cX9_unit 10 = .ok (.ifCond .ne 5, 3) := by decide +kernel
theorem dX9_unit_13 : decode cX9_unit 13 = .ok (.iconst (-1), 1) := by decide +kernel
theorem dX9_unit_14 : decode cX9_unit 14 = .ok (.ireturn, 1) := by decide +kernel
theorem dX9_unit_15 : decode cX9_unit 15 = .ok (.aload_n 0, 1) := by decide +kernel
theorem dX9_unit_16 : decode cX9_unit 16 = .ok (.invokevirtual 144, 3) := by decide +kernel
theorem dX9_unit_19 : decode cX9_unit 19 = .ok (.astore_n 3, 1) := by decide +kernel
theorem dX9_unit_20 : decode cX9_unit 20 = .ok (.iload_n 1, 1) := by decide +kernel
theorem dX9_unit_21 : decode cX9_unit 21 = .ok (.aload_n 3, 1) := by decide +kernel
theorem dX9_unit_22 : decode cX9_unit 22 = .ok (.getfield 148, 3) := by decide +kernel
theorem dX9_unit_25 : decode cX9_unit 25 = .ok (.if_icmp .ge 15, 3) := by decide +kernel
theorem dX9_unit_28 : decode cX9_unit 28 = .ok (.aload_n 3, 1) := by decide +kernel
theorem dX9_unit_29 : decode cX9_unit 29 = .ok (.iload_n 1, 1) := by decide +kernel
theorem dX9_unit_30 : decode cX9_unit 30 = .ok (.iload_n 2, 1) := by decide +kernel
theorem dX9_unit_31 : decode cX9_unit 31 = .ok (.invokevirtual 199, 3) := by decide +kernel
theorem dX9_unit_34 : decode cX9_unit 34 = .ok (.bipush 10, 2) := by decide +kernel
theorem dX9_unit_36 : decode cX9_unit 36 = .ok (.iadd, 1) := by decide +kernel
theorem dX9_unit_37 : decode cX9_unit 37 = .ok (.goto 5, 3) := by decide +kernel
theorem dX9_unit_40 : decode cX9_unit 40 = .ok (.bipush (-5), 2) := by decide +kernel
theorem dX9_unit_42 : decode cX9_unit 42 = .ok (.ireturn, 1) := by decide +kernel
theorem dX9_family_0 : decode cX9_family 0 = .ok (.iload_n 1, 1) := by decide +kernel
theorem dX9_family_1 : decode cX9_family 1 = .ok (.ifCond .ge 5, 3) := by decide +kernel
theorem dX9_family_4 : decode cX9_family 4 = .ok (.iconst (-1), 1) := by decide +kernel
theorem dX9_family_5 : decode cX9_family 5 = .ok (.ireturn, 1) := by decide +kernel
theorem dX9_family_6 : decode cX9_family 6 = .ok (.aload_n 0, 1) := by decide +kernel
theorem dX9_family_7 : decode cX9_family 7 = .ok (.invokevirtual 149, 3) := by decide +kernel
theorem dX9_family_10 : decode cX9_family 10 = .ok (.astore_n 2, 1) := by decide +kernel
theorem dX9_family_11 : decode cX9_family 11 = .ok (.iload_n 1, 1) := by decide +kernel
theorem dX9_family_12 : decode cX9_family 12 = .ok (.aload_n 2, 1) := by decide +kernel
theorem dX9_family_13 : decode cX9_family 13 = .ok (.getfield 152, 3) := by decide +kernel
theorem dX9_family_16 : decode cX9_family 16 = .ok (.if_icmp .ge 11, 3) := by decide +kernel
theorem dX9_family_19 : decode cX9_family 19 = .ok (.aload_n 2, 1) := by decide +kernel
theorem dX9_family_20 : decode cX9_family 20 = .ok (.iload_n 1, 1) := by decide +kernel
theorem dX9_family_21 : decode cX9_family 21 = .ok (.invokevirtual 202, 3) := by decide +kernel
theorem dX9_family_24 : decode cX9_family 24 = .ok (.goto 5, 3) := by decide +kernel
theorem dX9_family_27 : decode cX9_family 27 = .ok (.bipush (-5), 2) := by decide +kernel
theorem dX9_family_29 : decode cX9_family 29 = .ok (.ireturn, 1) := by decide +kernel
theorem dX9_part_0 : decode cX9_part 0 = .ok (.iload_n 1, 1) := by decide +kernel
theorem dX9_part_1 : decode cX9_part 1 = .ok (.ifCond .ge 5, 3) := by decide +kernel
theorem dX9_part_4 : decode cX9_part 4 = .ok (.iconst (-1), 1) := by decide +kernel
theorem dX9_part_5 : decode cX9_part 5 = .ok (.ireturn, 1) := by decide +kernel
theorem dX9_part_6 : decode cX9_part 6 = .ok (.aload_n 0, 1) := by decide +kernel
theorem dX9_part_7 : decode cX9_part 7 = .ok (.invokevirtual 155, 3) := by decide +kernel
theorem dX9_part_10 : decode cX9_part 10 = .ok (.astore_n 2, 1) := by decide +kernel
theorem dX9_part_11 : decode cX9_part 11 = .ok (.iload_n 1, 1) := by decide +kernel
theorem dX9_part_12 : decode cX9_part 12 = .ok (.aload_n 2, 1) := by decide +kernel
theorem dX9_part_13 : decode cX9_part 13 = .ok (.getfield 159, 3) := by decide +kernel
theorem dX9_part_16 : decode cX9_part 16 = .ok (.if_icmp .ge 11, 3) := by decide +kernel
theorem dX9_part_19 : decode cX9_part 19 = .ok (.aload_n 2, 1) := by decide +kernel
theorem dX9_part_20 : decode cX9_part 20 = .ok (.iload_n 1, 1) := by decide +kernel
theorem dX9_part_21 : decode cX9_part 21 = .ok (.invokevirtual 205, 3) := by decide +kernel
theorem dX9_part_24 : decode cX9_part 24 = .ok (.goto 5, 3) := by decide +kernel
theorem dX9_part_27 : decode cX9_part 27 = .ok (.bipush (-5), 2) := by decide +kernel
theorem dX9_part_29 : decode cX9_part 29 = .ok (.ireturn, 1) := by decide +kernel
theorem dX9_convergent_0 : decode cX9_convergent 0 = .ok (.iload_n 1, 1) := by decide +kernel
theorem dX9_convergent_1 : decode cX9_convergent 1 = .ok (.ifCond .lt 12, 3) := by decide +kernel
theorem dX9_convergent_4 : decode cX9_convergent 4 = .ok (.iload_n 2, 1) := by decide +kernel
theorem dX9_convergent_5 : decode cX9_convergent 5 = .ok (.iconst 0, 1) := by decide +kernel
theorem dX9_convergent_6 : decode cX9_convergent 6 = .ok (.iconst 1, 1) := by decide +kernel
theorem dX9_convergent_7 : decode cX9_convergent 7 = .ok (.invokestatic 67, 3) := by decide +kernel
theorem dX9_convergent_10 : decode cX9_convergent 10 = .ok (.ifCond .ne 7, 3) := by decide +kernel
theorem dX9_convergent_13 : decode cX9_convergent 13 = .ok (.ldc2_w 163, 3) := by decide +kernel
theorem dX9_convergent_16 : decode cX9_convergent 16 = .ok (.lreturn, 1) := by decide +kernel
theorem dX9_convergent_17 : decode cX9_convergent 17 = .ok (.aload_n 0, 1) := by decide +kernel
theorem dX9_convergent_18 : decode cX9_convergent 18 = .ok (.invokevirtual 155, 3) := by decide +kernel
theorem dX9_convergent_21 : decode cX9_convergent 21 = .ok (.astore_n 3, 1) := by decide +kernel
theorem dX9_convergent_22 : decode cX9_convergent 22 = .ok (.iload_n 1, 1) := by decide +kernel
theorem dX9_convergent_23 : decode cX9_convergent 23 = .ok (.aload_n 3, 1) := by decide +kernel
theorem dX9_convergent_24 : decode cX9_convergent 24 = .ok (.getfield 159, 3) := by decide +kernel
theorem dX9_convergent_27 : decode cX9_convergent 27 = .ok (.if_icmp .lt 7, 3) := by decide +kernel
theorem dX9_convergent_30 : decode cX9_convergent 30 = .ok (.ldc2_w 163, 3) := by decide +kernel
theorem dX9_convergent_33 : decode cX9_convergent 33 = .ok (.lreturn, 1) := by decide +kernel
theorem dX9_convergent_34 : decode cX9_convergent 34 = .ok (.iload_n 2, 1) := by decide +kernel
theorem dX9_convergent_35 : decode cX9_convergent 35 = .ok (.ifCond .ne 11, 3) := by decide +kernel
theorem dX9_convergent_38 : decode cX9_convergent 38 = .ok (.aload_n 3, 1) := by decide +kernel
theorem dX9_convergent_39 : decode cX9_convergent 39 = .ok (.iload_n 1, 1) := by decide +kernel
theorem dX9_convergent_40 : decode cX9_convergent 40 = .ok (.invokevirtual 206, 3) := by decide +kernel
theorem dX9_convergent_43 : decode cX9_convergent 43 = .ok (.goto 8, 3) := by decide +kernel
theorem dX9_convergent_46 : decode cX9_convergent 46 = .ok (.aload_n 3, 1) := by decide +kernel
theorem dX9_convergent_47 : decode cX9_convergent 47 = .ok (.iload_n 1, 1) := by decide +kernel
theorem dX9_convergent_48 : decode cX9_convergent 48 = .ok (.invokevirtual 210, 3) := by decide +kernel
theorem dX9_convergent_51 : decode cX9_convergent 51 = .ok (.lreturn, 1) := by decide +kernel
theorem dX9_see_0 : decode cX9_see 0 = .ok (.iload_n 1, 1) := by decide +kernel
theorem dX9_see_1 : decode cX9_see 1 = .ok (.bipush (-100), 2) := by decide +kernel
theorem dX9_see_3 : decode cX9_see 3 = .ok (.if_icmp .ne 14, 3) := by decide +kernel
theorem dX9_see_6 : decode cX9_see 6 = .ok (.aload_n 0, 1) := by decide +kernel
theorem dX9_see_7 : decode cX9_see 7 = .ok (.getfield 12, 3) := by decide +kernel
theorem dX9_see_10 : decode cX9_see 10 = .ok (.getfield 213, 3) := by decide +kernel
theorem dX9_see_13 : decode cX9_see 13 = .ok (.invokevirtual 216, 3) := by decide +kernel
theorem dX9_see_16 : decode cX9_see 16 = .ok (.ireturn, 1) := by decide +kernel
theorem dX9_see_17 : decode cX9_see 17 = .ok (.iload_n 1, 1) := by decide +kernel
theorem dX9_see_18 : decode cX9_see 18 = .ok (.bipush (-9), 2) := by decide +kernel
theorem dX9_see_20 : decode cX9_see 20 = .ok (.bipush 9, 2) := by decide +kernel
theorem dX9_see_22 : decode cX9_see 22 = .ok (.invokestatic 67, 3) := by decide +kernel
theorem dX9_see_25 : decode cX9_see 25 = .ok (.ifCond .ne 6, 3) := by decide +kernel
theorem dX9_see_28 : decode cX9_see 28 = .ok (.bipush (-2), 2) := by decide +kernel
theorem dX9_see_30 : decode cX9_see 30 = .ok (.ireturn, 1) := by decide +kernel
theorem dX9_see_31 : decode cX9_see 31 = .ok (.iload_n 2, 1) := by decide +kernel
theorem dX9_see_32 : decode cX9_see 32 = .ok (.bipush (-9), 2) := by decide +kernel
theorem dX9_see_34 : decode cX9_see 34 = .ok (.bipush 9, 2) := by decide +kernel
theorem dX9_see_36 : decode cX9_see 36 = .ok (.invokestatic 67, 3) := by decide +kernel
theorem dX9_see_39 : decode cX9_see 39 = .ok (.ifCond .ne 6, 3) := by decide +kernel
theorem dX9_see_42 : decode cX9_see 42 = .ok (.bipush (-2), 2) := by decide +kernel
theorem dX9_see_44 : decode cX9_see 44 = .ok (.ireturn, 1) := by decide +kernel
theorem dX9_see_45 : decode cX9_see 45 = .ok (.iload_n 3, 1) := by decide +kernel
theorem dX9_see_46 : decode cX9_see 46 = .ok (.sipush (-9999), 3) := by decide +kernel
theorem dX9_see_49 : decode cX9_see 49 = .ok (.sipush 9999, 3) := by decide +kernel
theorem dX9_see_52 : decode cX9_see 52 = .ok (.invokestatic 67, 3) := by decide +kernel
theorem dX9_see_55 : decode cX9_see 55 = .ok (.ifCond .ne 6, 3) := by decide +kernel
theorem dX9_see_58 : decode cX9_see 58 = .ok (.bipush (-2), 2) := by decide +kernel
theorem dX9_see_60 : decode cX9_see 60 = .ok (.ireturn, 1) := by decide +kernel
theorem dX9_see_61 : decode cX9_see 61 = .ok (.aload_n 0, 1) := by decide +kernel
theorem dX9_see_62 : decode cX9_see 62 = .ok (.getfield 12, 3) := by decide +kernel
theorem dX9_see_65 : decode cX9_see 65 = .ok (.getfield 213, 3) := by decide +kernel
theorem dX9_see_68 : decode cX9_see 68 = .ok (.iload_n 1, 1) := by decide +kernel
theorem dX9_see_69 : decode cX9_see 69 = .ok (.iload_n 2, 1) := by decide +kernel
theorem dX9_see_70 : decode cX9_see 70 = .ok (.iload_n 3, 1) := by decide +kernel
theorem dX9_see_71 : decode cX9_see 71 = .ok (.invokevirtual 219, 3) := by decide +kernel
theorem dX9_see_74 : decode cX9_see 74 = .ok (.ireturn, 1) := by decide +kernel
theorem dX9_fits_0 : decode cX9_fits 0 = .ok (.aload_n 0, 1) := by decide +kernel
theorem dX9_fits_1 : decode cX9_fits 1 = .ok (.getfield 12, 3) := by decide +kernel
theorem dX9_fits_4 : decode cX9_fits 4 = .ok (.getfield 71, 3) := by decide +kernel
theorem dX9_fits_7 : decode cX9_fits 7 = .ok (.getfield 74, 3) := by decide +kernel
theorem dX9_fits_10 : decode cX9_fits 10 = .ok (.iload_n 1, 1) := by decide +kernel
theorem dX9_fits_11 : decode cX9_fits 11 = .ok (.invokevirtual 88, 3) := by decide +kernel
theorem dX9_fits_14 : decode cX9_fits 14 = .ok (.ifCond .eq 12, 3) := by decide +kernel
theorem dX9_fits_17 : decode cX9_fits 17 = .ok (.iload_n 2, 1) := by decide +kernel
theorem dX9_fits_18 : decode cX9_fits 18 = .ok (.iconst 0, 1) := by decide +kernel
theorem dX9_fits_19 : decode cX9_fits 19 = .ok (.iconst 1, 1) := by decide +kernel
theorem dX9_fits_20 : decode cX9_fits 20 = .ok (.invokestatic 67, 3) := by decide +kernel
theorem dX9_fits_23 : decode cX9_fits 23 = .ok (.ifCond .ne 5, 3) := by decide +kernel
theorem dX9_fits_26 : decode cX9_fits 26 = .ok (.iconst (-1), 1) := by decide +kernel
theorem dX9_fits_27 : decode cX9_fits 27 = .ok (.ireturn, 1) := by decide +kernel
theorem dX9_fits_28 : decode cX9_fits 28 = .ok (.aload_n 0, 1) := by decide +kernel
theorem dX9_fits_29 : decode cX9_fits 29 = .ok (.getfield 28, 3) := by decide +kernel
theorem dX9_fits_32 : decode cX9_fits 32 = .ok (.getfield 74, 3) := by decide +kernel
theorem dX9_fits_35 : decode cX9_fits 35 = .ok (.astore_n 3, 1) := by decide +kernel
theorem dX9_fits_36 : decode cX9_fits 36 = .ok (.aload_n 3, 1) := by decide +kernel
theorem dX9_fits_37 : decode cX9_fits 37 = .ok (.aload_n 0, 1) := by decide +kernel
theorem dX9_fits_38 : decode cX9_fits 38 = .ok (.getfield 12, 3) := by decide +kernel
theorem dX9_fits_41 : decode cX9_fits 41 = .ok (.getfield 71, 3) := by decide +kernel
theorem dX9_fits_44 : decode cX9_fits 44 = .ok (.getfield 74, 3) := by decide +kernel
theorem dX9_fits_47 : decode cX9_fits 47 = .ok (.invokevirtual 222, 3) := by decide +kernel
theorem dX9_fits_50 : decode cX9_fits 50 = .ok (.iconst 0, 1) := by decide +kernel
theorem dX9_fits_51 : decode cX9_fits 51 = .ok (.istore 4, 2) := by decide +kernel
theorem dX9_fits_53 : decode cX9_fits 53 = .ok (.iconst 0, 1) := by decide +kernel
theorem dX9_fits_54 : decode cX9_fits 54 = .ok (.istore 5, 2) := by decide +kernel
theorem dX9_fits_56 : decode cX9_fits 56 = .ok (.bipush 99, 2) := by decide +kernel
theorem dX9_fits_58 : decode cX9_fits 58 = .ok (.istore 6, 2) := by decide +kernel
theorem dX9_fits_60 : decode cX9_fits 60 = .ok (.iload 6, 2) := by decide +kernel
theorem dX9_fits_62 : decode cX9_fits 62 = .ok (.bipush (-99), 2) := by decide +kernel
theorem dX9_fits_64 : decode cX9_fits 64 = .ok (.if_icmp .lt 34, 3) := by decide +kernel
theorem dX9_fits_67 : decode cX9_fits 67 = .ok (.aload_n 3, 1) := by decide +kernel
theorem dX9_fits_68 : decode cX9_fits 68 = .ok (.iload_n 1, 1) := by decide +kernel
theorem dX9_fits_69 : decode cX9_fits 69 = .ok (.iload 6, 2) := by decide +kernel
theorem dX9_fits_71 : decode cX9_fits 71 = .ok (.invokevirtual 96, 3) := by decide +kernel
theorem dX9_fits_74 : decode cX9_fits 74 = .ok (.aload_n 0, 1) := by decide +kernel
theorem dX9_fits_75 : decode cX9_fits 75 = .ok (.aload_n 3, 1) := by decide +kernel
theorem dX9_fits_76 : decode cX9_fits 76 = .ok (.invokevirtual 226, 3) := by decide +kernel
theorem dX9_fits_79 : decode cX9_fits 79 = .ok (.ifCond .eq 13, 3) := by decide +kernel
theorem dX9_fits_82 : decode cX9_fits 82 = .ok (.iinc 4 1, 3) := by decide +kernel
theorem dX9_fits_85 : decode cX9_fits 85 = .ok (.iload 6, 2) := by decide +kernel
theorem dX9_fits_87 : decode cX9_fits 87 = .ok (.bipush 100, 2) := by decide +kernel
theorem dX9_fits_89 : decode cX9_fits 89 = .ok (.iadd, 1) := by decide +kernel
theorem dX9_fits_90 : decode cX9_fits 90 = .ok (.istore 5, 2) := by decide +kernel
theorem dX9_fits_92 : decode cX9_fits 92 = .ok (.iinc 6 (-1), 3) := by decide +kernel
theorem dX9_fits_95 : decode cX9_fits 95 = .ok (.goto (-35), 3) := by decide +kernel
theorem dX9_fits_98 : decode cX9_fits 98 = .ok (.iload_n 2, 1) := by decide +kernel
theorem dX9_fits_99 : decode cX9_fits 99 = .ok (.ifCond .ne 8, 3) := by decide +kernel
theorem dX9_fits_102 : decode cX9_fits 102 = .ok (.iload 4, 2) := by decide +kernel
theorem dX9_fits_104 : decode cX9_fits 104 = .ok (.goto 5, 3) := by decide +kernel
theorem dX9_fits_107 : decode cX9_fits 107 = .ok (.iload 5, 2) := by decide +kernel
theorem dX9_fits_109 : decode cX9_fits 109 = .ok (.ireturn, 1) := by decide +kernel
theorem dX9_odds_0 : decode cX9_odds 0 = .ok (.iload_n 1, 1) := by decide +kernel
theorem dX9_odds_1 : decode cX9_odds 1 = .ok (.iconst 0, 1) := by decide +kernel
theorem dX9_odds_2 : decode cX9_odds 2 = .ok (.iconst 1, 1) := by decide +kernel
theorem dX9_odds_3 : decode cX9_odds 3 = .ok (.invokestatic 67, 3) := by decide +kernel
theorem dX9_odds_6 : decode cX9_odds 6 = .ok (.ifCond .ne 7, 3) := by decide +kernel
theorem dX9_odds_9 : decode cX9_odds 9 = .ok (.ldc2_w 163, 3) := by decide +kernel
theorem dX9_odds_12 : decode cX9_odds 12 = .ok (.lreturn, 1) := by decide +kernel
theorem dX9_odds_13 : decode cX9_odds 13 = .ok (.aload_n 0, 1) := by decide +kernel
theorem dX9_odds_14 : decode cX9_odds 14 = .ok (.getfield 12, 3) := by decide +kernel
theorem dX9_odds_17 : decode cX9_odds 17 = .ok (.getfield 71, 3) := by decide +kernel
theorem dX9_odds_20 : decode cX9_odds 20 = .ok (.invokevirtual 230, 3) := by decide +kernel
theorem dX9_odds_23 : decode cX9_odds 23 = .ok (.aload_n 0, 1) := by decide +kernel
theorem dX9_odds_24 : decode cX9_odds 24 = .ok (.getfield 12, 3) := by decide +kernel
theorem dX9_odds_27 : decode cX9_odds 27 = .ok (.getfield 71, 3) := by decide +kernel
theorem dX9_odds_30 : decode cX9_odds 30 = .ok (.invokevirtual 234, 3) := by decide +kernel
theorem dX9_odds_33 : decode cX9_odds 33 = .ok (.iload_n 1, 1) := by decide +kernel
theorem dX9_odds_34 : decode cX9_odds 34 = .ok (.invokestatic 237, 3) := by decide +kernel
theorem dX9_odds_37 : decode cX9_odds 37 = .ok (.lreturn, 1) := by decide +kernel
theorem dX9_mean_0 : decode cX9_mean 0 = .ok (.iload_n 1, 1) := by decide +kernel
theorem dX9_mean_1 : decode cX9_mean 1 = .ok (.iconst 0, 1) := by decide +kernel
theorem dX9_mean_2 : decode cX9_mean 2 = .ok (.iconst 1, 1) := by decide +kernel
theorem dX9_mean_3 : decode cX9_mean 3 = .ok (.invokestatic 67, 3) := by decide +kernel
theorem dX9_mean_6 : decode cX9_mean 6 = .ok (.ifCond .ne 7, 3) := by decide +kernel
theorem dX9_mean_9 : decode cX9_mean 9 = .ok (.ldc2_w 163, 3) := by decide +kernel
theorem dX9_mean_12 : decode cX9_mean 12 = .ok (.lreturn, 1) := by decide +kernel
theorem dX9_mean_13 : decode cX9_mean 13 = .ok (.aload_n 0, 1) := by decide +kernel
theorem dX9_mean_14 : decode cX9_mean 14 = .ok (.getfield 12, 3) := by decide +kernel
theorem dX9_mean_17 : decode cX9_mean 17 = .ok (.getfield 71, 3) := by decide +kernel
theorem dX9_mean_20 : decode cX9_mean 20 = .ok (.invokevirtual 241, 3) := by decide +kernel
theorem dX9_mean_23 : decode cX9_mean 23 = .ok (.aload_n 0, 1) := by decide +kernel
theorem dX9_mean_24 : decode cX9_mean 24 = .ok (.getfield 12, 3) := by decide +kernel
theorem dX9_mean_27 : decode cX9_mean 27 = .ok (.getfield 71, 3) := by decide +kernel
theorem dX9_mean_30 : decode cX9_mean 30 = .ok (.invokevirtual 234, 3) := by decide +kernel
theorem dX9_mean_33 : decode cX9_mean 33 = .ok (.iload_n 1, 1) := by decide +kernel
theorem dX9_mean_34 : decode cX9_mean 34 = .ok (.invokestatic 237, 3) := by decide +kernel
theorem dX9_mean_37 : decode cX9_mean 37 = .ok (.lreturn, 1) := by decide +kernel
theorem dX9_event_0 : decode cX9_event 0 = .ok (.iload_n 1, 1) := by decide +kernel
theorem dX9_event_1 : decode cX9_event 1 = .ok (.iconst (-1), 1) := by decide +kernel
theorem dX9_event_2 : decode cX9_event 2 = .ok (.if_icmp .ne 14, 3) := by decide +kernel
theorem dX9_event_5 : decode cX9_event 5 = .ok (.aload_n 0, 1) := by decide +kernel
theorem dX9_event_6 : decode cX9_event 6 = .ok (.getfield 12, 3) := by decide +kernel
theorem dX9_event_9 : decode cX9_event 9 = .ok (.getfield 244, 3) := by decide +kernel
theorem dX9_event_12 : decode cX9_event 12 = .ok (.invokevirtual 216, 3) := by decide +kernel
theorem dX9_event_15 : decode cX9_event 15 = .ok (.ireturn, 1) := by decide +kernel
theorem dX9_event_16 : decode cX9_event 16 = .ok (.iload_n 1, 1) := by decide +kernel
theorem dX9_event_17 : decode cX9_event 17 = .ok (.iconst 0, 1) := by decide +kernel
theorem dX9_event_18 : decode cX9_event 18 = .ok (.iconst 2, 1) := by decide +kernel
theorem dX9_event_19 : decode cX9_event 19 = .ok (.invokestatic 67, 3) := by decide +kernel
theorem dX9_event_22 : decode cX9_event 22 = .ok (.ifCond .ne 5, 3) := by decide +kernel
theorem dX9_event_25 : decode cX9_event 25 = .ok (.iconst (-1), 1) := by decide +kernel
theorem dX9_event_26 : decode cX9_event 26 = .ok (.ireturn, 1) := by decide +kernel
theorem dX9_event_27 : decode cX9_event 27 = .ok (.iload_n 1, 1) := by decide +kernel
theorem dX9_event_28 : decode cX9_event 28 = .ok (.ifCond .ne 22, 3) := by decide +kernel
theorem dX9_event_31 : decode cX9_event 31 = .ok (.aload_n 0, 1) := by decide +kernel
theorem dX9_event_32 : decode cX9_event 32 = .ok (.getfield 12, 3) := by decide +kernel
theorem dX9_event_35 : decode cX9_event 35 = .ok (.getfield 71, 3) := by decide +kernel
theorem dX9_event_38 : decode cX9_event 38 = .ok (.getfield 74, 3) := by decide +kernel
theorem dX9_event_41 : decode cX9_event 41 = .ok (.iload_n 2, 1) := by decide +kernel
theorem dX9_event_42 : decode cX9_event 42 = .ok (.invokevirtual 88, 3) := by decide +kernel
theorem dX9_event_45 : decode cX9_event 45 = .ok (.ifCond .ne 5, 3) := by decide +kernel
theorem dX9_event_48 : decode cX9_event 48 = .ok (.iconst (-1), 1) := by decide +kernel
theorem dX9_event_49 : decode cX9_event 49 = .ok (.ireturn, 1) := by decide +kernel
theorem dX9_event_50 : decode cX9_event 50 = .ok (.iload_n 1, 1) := by decide +kernel
theorem dX9_event_51 : decode cX9_event 51 = .ok (.iconst 1, 1) := by decide +kernel
theorem dX9_event_52 : decode cX9_event 52 = .ok (.if_icmp .ne 12, 3) := by decide +kernel
theorem dX9_event_55 : decode cX9_event 55 = .ok (.iload_n 2, 1) := by decide +kernel
theorem dX9_event_56 : decode cX9_event 56 = .ok (.invokestatic 106, 3) := by decide +kernel
theorem dX9_event_59 : decode cX9_event 59 = .ok (.ifCond .ne 5, 3) := by decide +kernel
theorem dX9_event_62 : decode cX9_event 62 = .ok (.iconst (-1), 1) := by decide +kernel
theorem dX9_event_63 : decode cX9_event 63 = .ok (.ireturn, 1) := by decide +kernel
theorem dX9_event_64 : decode cX9_event 64 = .ok (.iload_n 1, 1) := by decide +kernel
theorem dX9_event_65 : decode cX9_event 65 = .ok (.iconst 2, 1) := by decide +kernel
theorem dX9_event_66 : decode cX9_event 66 = .ok (.if_icmp .ne 17, 3) := by decide +kernel
theorem dX9_event_69 : decode cX9_event 69 = .ok (.iload_n 2, 1) := by decide +kernel
theorem dX9_event_70 : decode cX9_event 70 = .ok (.bipush (-99), 2) := by decide +kernel
theorem dX9_event_72 : decode cX9_event 72 = .ok (.bipush 99, 2) := by decide +kernel
theorem dX9_event_74 : decode cX9_event 74 = .ok (.invokestatic 67, 3) := by decide +kernel
theorem dX9_event_77 : decode cX9_event 77 = .ok (.ifCond .ne 6, 3) := by decide +kernel
theorem dX9_event_80 : decode cX9_event 80 = .ok (.bipush (-2), 2) := by decide +kernel
theorem dX9_event_82 : decode cX9_event 82 = .ok (.ireturn, 1) := by decide +kernel
theorem dX9_event_83 : decode cX9_event 83 = .ok (.aload_n 0, 1) := by decide +kernel
theorem dX9_event_84 : decode cX9_event 84 = .ok (.getfield 12, 3) := by decide +kernel
theorem dX9_event_87 : decode cX9_event 87 = .ok (.getfield 244, 3) := by decide +kernel
theorem dX9_event_90 : decode cX9_event 90 = .ok (.iload_n 1, 1) := by decide +kernel
theorem dX9_event_91 : decode cX9_event 91 = .ok (.iload_n 2, 1) := by decide +kernel
theorem dX9_event_92 : decode cX9_event 92 = .ok (.iconst 0, 1) := by decide +kernel
theorem dX9_event_93 : decode cX9_event 93 = .ok (.invokevirtual 219, 3) := by decide +kernel
theorem dX9_event_96 : decode cX9_event 96 = .ok (.ireturn, 1) := by decide +kernel
theorem dX9_after_0 : decode cX9_after 0 = .ok (.iload_n 1, 1) := by decide +kernel
theorem dX9_after_1 : decode cX9_after 1 = .ok (.iconst 0, 1) := by decide +kernel
theorem dX9_after_2 : decode cX9_after 2 = .ok (.iconst 2, 1) := by decide +kernel
theorem dX9_after_3 : decode cX9_after 3 = .ok (.invokestatic 67, 3) := by decide +kernel
theorem dX9_after_6 : decode cX9_after 6 = .ok (.ifCond .ne 5, 3) := by decide +kernel
theorem dX9_after_9 : decode cX9_after 9 = .ok (.iconst (-1), 1) := by decide +kernel
theorem dX9_after_10 : decode cX9_after 10 = .ok (.ireturn, 1) := by decide +kernel
theorem dX9_after_11 : decode cX9_after 11 = .ok (.aload_n 0, 1) := by decide +kernel
theorem dX9_after_12 : decode cX9_after 12 = .ok (.invokevirtual 247, 3) := by decide +kernel
theorem dX9_after_15 : decode cX9_after 15 = .ok (.iload_n 1, 1) := by decide +kernel
theorem dX9_after_16 : decode cX9_after 16 = .ok (.ifCond .ne 11, 3) := by decide +kernel
theorem dX9_after_19 : decode cX9_after 19 = .ok (.aload_n 0, 1) := by decide +kernel
theorem dX9_after_20 : decode cX9_after 20 = .ok (.getfield 28, 3) := by decide +kernel
theorem dX9_after_23 : decode cX9_after 23 = .ok (.invokevirtual 250, 3) := by decide +kernel
theorem dX9_after_26 : decode cX9_after 26 = .ok (.ireturn, 1) := by decide +kernel
theorem dX9_after_27 : decode cX9_after 27 = .ok (.iload_n 1, 1) := by decide +kernel
theorem dX9_after_28 : decode cX9_after 28 = .ok (.iconst 1, 1) := by decide +kernel
theorem dX9_after_29 : decode cX9_after 29 = .ok (.if_icmp .ne 11, 3) := by decide +kernel
theorem dX9_after_32 : decode cX9_after 32 = .ok (.aload_n 0, 1) := by decide +kernel
theorem dX9_after_33 : decode cX9_after 33 = .ok (.getfield 28, 3) := by decide +kernel
theorem dX9_after_36 : decode cX9_after 36 = .ok (.invokevirtual 196, 3) := by decide +kernel
theorem dX9_after_39 : decode cX9_after 39 = .ok (.ireturn, 1) := by decide +kernel
theorem dX9_after_40 : decode cX9_after 40 = .ok (.aload_n 0, 1) := by decide +kernel
theorem dX9_after_41 : decode cX9_after 41 = .ok (.getfield 42, 3) := by decide +kernel
theorem dX9_after_44 : decode cX9_after 44 = .ok (.aload_n 0, 1) := by decide +kernel
theorem dX9_after_45 : decode cX9_after 45 = .ok (.getfield 28, 3) := by decide +kernel
theorem dX9_after_48 : decode cX9_after 48 = .ok (.getfield 74, 3) := by decide +kernel
theorem dX9_after_51 : decode cX9_after 51 = .ok (.invokevirtual 253, 3) := by decide +kernel
theorem dX9_after_54 : decode cX9_after 54 = .ok (.aload_n 0, 1) := by decide +kernel
theorem dX9_after_55 : decode cX9_after 55 = .ok (.getfield 42, 3) := by decide +kernel
theorem dX9_after_58 : decode cX9_after 58 = .ok (.getfield 148, 3) := by decide +kernel
theorem dX9_after_61 : decode cX9_after 61 = .ok (.ireturn, 1) := by decide +kernel
theorem dX9_book_0 : decode cX9_book 0 = .ok (.iload_n 1, 1) := by decide +kernel
theorem dX9_book_1 : decode cX9_book 1 = .ok (.iconst (-1), 1) := by decide +kernel
theorem dX9_book_2 : decode cX9_book 2 = .ok (.if_icmp .ne 14, 3) := by decide +kernel
theorem dX9_book_5 : decode cX9_book 5 = .ok (.aload_n 0, 1) := by decide +kernel
theorem dX9_book_6 : decode cX9_book 6 = .ok (.getfield 12, 3) := by decide +kernel
theorem dX9_book_9 : decode cX9_book 9 = .ok (.getfield 256, 3) := by decide +kernel
theorem dX9_book_12 : decode cX9_book 12 = .ok (.invokevirtual 216, 3) := by decide +kernel
theorem dX9_book_15 : decode cX9_book 15 = .ok (.ireturn, 1) := by decide +kernel
theorem dX9_book_16 : decode cX9_book 16 = .ok (.aload_n 0, 1) := by decide +kernel
theorem dX9_book_17 : decode cX9_book 17 = .ok (.getfield 12, 3) := by decide +kernel
theorem dX9_book_20 : decode cX9_book 20 = .ok (.getfield 71, 3) := by decide +kernel
theorem dX9_book_23 : decode cX9_book 23 = .ok (.getfield 74, 3) := by decide +kernel
theorem dX9_book_26 : decode cX9_book 26 = .ok (.iload_n 1, 1) := by decide +kernel
theorem dX9_book_27 : decode cX9_book 27 = .ok (.invokevirtual 88, 3) := by decide +kernel
theorem dX9_book_30 : decode cX9_book 30 = .ok (.ifCond .ne 5, 3) := by decide +kernel
theorem dX9_book_33 : decode cX9_book 33 = .ok (.iconst (-1), 1) := by decide +kernel
theorem dX9_book_34 : decode cX9_book 34 = .ok (.ireturn, 1) := by decide +kernel
theorem dX9_book_35 : decode cX9_book 35 = .ok (.iload_n 2, 1) := by decide +kernel
theorem dX9_book_36 : decode cX9_book 36 = .ok (.bipush (-99), 2) := by decide +kernel
theorem dX9_book_38 : decode cX9_book 38 = .ok (.bipush 99, 2) := by decide +kernel
theorem dX9_book_40 : decode cX9_book 40 = .ok (.invokestatic 67, 3) := by decide +kernel
theorem dX9_book_43 : decode cX9_book 43 = .ok (.ifCond .ne 6, 3) := by decide +kernel
theorem dX9_book_46 : decode cX9_book 46 = .ok (.bipush (-2), 2) := by decide +kernel
theorem dX9_book_48 : decode cX9_book 48 = .ok (.ireturn, 1) := by decide +kernel
theorem dX9_book_49 : decode cX9_book 49 = .ok (.aload_n 0, 1) := by decide +kernel
theorem dX9_book_50 : decode cX9_book 50 = .ok (.getfield 12, 3) := by decide +kernel
theorem dX9_book_53 : decode cX9_book 53 = .ok (.getfield 256, 3) := by decide +kernel
theorem dX9_book_56 : decode cX9_book 56 = .ok (.iload_n 1, 1) := by decide +kernel
theorem dX9_book_57 : decode cX9_book 57 = .ok (.iload_n 2, 1) := by decide +kernel
theorem dX9_book_58 : decode cX9_book 58 = .ok (.iconst 0, 1) := by decide +kernel
theorem dX9_book_59 : decode cX9_book 59 = .ok (.invokevirtual 219, 3) := by decide +kernel
theorem dX9_book_62 : decode cX9_book 62 = .ok (.ireturn, 1) := by decide +kernel
theorem dX9_looked_0 : decode cX9_looked 0 = .ok (.aload_n 0, 1) := by decide +kernel
theorem dX9_looked_1 : decode cX9_looked 1 = .ok (.getfield 12, 3) := by decide +kernel
theorem dX9_looked_4 : decode cX9_looked 4 = .ok (.getfield 71, 3) := by decide +kernel
theorem dX9_looked_7 : decode cX9_looked 7 = .ok (.getfield 74, 3) := by decide +kernel
theorem dX9_looked_10 : decode cX9_looked 10 = .ok (.astore_n 1, 1) := by decide +kernel
theorem dX9_looked_11 : decode cX9_looked 11 = .ok (.iconst 0, 1) := by decide +kernel
theorem dX9_looked_12 : decode cX9_looked 12 = .ok (.istore_n 2, 1) := by decide +kernel
theorem dX9_looked_13 : decode cX9_looked 13 = .ok (.iload_n 2, 1) := by decide +kernel
theorem dX9_looked_14 : decode cX9_looked 14 = .ok (.aload_n 0, 1) := by decide +kernel
theorem dX9_looked_15 : decode cX9_looked 15 = .ok (.getfield 12, 3) := by decide +kernel
theorem dX9_looked_18 : decode cX9_looked 18 = .ok (.getfield 256, 3) := by decide +kernel
theorem dX9_looked_21 : decode cX9_looked 21 = .ok (.getfield 133, 3) := by decide +kernel
theorem dX9_looked_24 : decode cX9_looked 24 = .ok (.if_icmp .ge 50, 3) := by decide +kernel
theorem dX9_looked_27 : decode cX9_looked 27 = .ok (.aload_n 0, 1) := by decide +kernel
theorem dX9_looked_28 : decode cX9_looked 28 = .ok (.getfield 12, 3) := by decide +kernel
theorem dX9_looked_31 : decode cX9_looked 31 = .ok (.getfield 256, 3) := by decide +kernel
theorem dX9_looked_34 : decode cX9_looked 34 = .ok (.iload_n 2, 1) := by decide +kernel
theorem dX9_looked_35 : decode cX9_looked 35 = .ok (.invokevirtual 259, 3) := by decide +kernel
theorem dX9_looked_38 : decode cX9_looked 38 = .ok (.istore_n 3, 1) := by decide +kernel
theorem dX9_looked_39 : decode cX9_looked 39 = .ok (.aload_n 1, 1) := by decide +kernel
theorem dX9_looked_40 : decode cX9_looked 40 = .ok (.iload_n 3, 1) := by decide +kernel
theorem dX9_looked_41 : decode cX9_looked 41 = .ok (.invokevirtual 88, 3) := by decide +kernel
theorem dX9_looked_44 : decode cX9_looked 44 = .ok (.ifCond .eq 22, 3) := by decide +kernel
theorem dX9_looked_47 : decode cX9_looked 47 = .ok (.aload_n 1, 1) := by decide +kernel
theorem dX9_looked_48 : decode cX9_looked 48 = .ok (.iload_n 3, 1) := by decide +kernel
theorem dX9_looked_49 : decode cX9_looked 49 = .ok (.invokevirtual 92, 3) := by decide +kernel
theorem dX9_looked_52 : decode cX9_looked 52 = .ok (.aload_n 0, 1) := by decide +kernel
theorem dX9_looked_53 : decode cX9_looked 53 = .ok (.getfield 12, 3) := by decide +kernel
theorem dX9_looked_56 : decode cX9_looked 56 = .ok (.getfield 256, 3) := by decide +kernel
theorem dX9_looked_59 : decode cX9_looked 59 = .ok (.iload_n 2, 1) := by decide +kernel
theorem dX9_looked_60 : decode cX9_looked 60 = .ok (.invokevirtual 262, 3) := by decide +kernel
theorem dX9_looked_63 : decode cX9_looked 63 = .ok (.if_icmp .eq 5, 3) := by decide +kernel
theorem dX9_looked_66 : decode cX9_looked 66 = .ok (.iload_n 2, 1) := by decide +kernel
theorem dX9_looked_67 : decode cX9_looked 67 = .ok (.ireturn, 1) := by decide +kernel
theorem dX9_looked_68 : decode cX9_looked 68 = .ok (.iinc 2 1, 3) := by decide +kernel
theorem dX9_looked_71 : decode cX9_looked 71 = .ok (.goto (-58), 3) := by decide +kernel
theorem dX9_looked_74 : decode cX9_looked 74 = .ok (.bipush (-5), 2) := by decide +kernel
theorem dX9_looked_76 : decode cX9_looked 76 = .ok (.ireturn, 1) := by decide +kernel
theorem dX9_judge_0 : decode cX9_judge 0 = .ok (.aload_n 0, 1) := by decide +kernel
theorem dX9_judge_1 : decode cX9_judge 1 = .ok (.iload_n 1, 1) := by decide +kernel
theorem dX9_judge_2 : decode cX9_judge 2 = .ok (.invokevirtual 265, 3) := by decide +kernel
theorem dX9_judge_5 : decode cX9_judge 5 = .ok (.astore_n 3, 1) := by decide +kernel
theorem dX9_judge_6 : decode cX9_judge 6 = .ok (.aload_n 3, 1) := by decide +kernel
theorem dX9_judge_7 : decode cX9_judge 7 = .ok (.ifnonnull 5, 3) := by decide +kernel
theorem dX9_judge_10 : decode cX9_judge 10 = .ok (.iconst (-1), 1) := by decide +kernel
theorem dX9_judge_11 : decode cX9_judge 11 = .ok (.ireturn, 1) := by decide +kernel
theorem dX9_judge_12 : decode cX9_judge 12 = .ok (.aload_n 3, 1) := by decide +kernel
theorem dX9_judge_13 : decode cX9_judge 13 = .ok (.invokevirtual 269, 3) := by decide +kernel
theorem dX9_judge_16 : decode cX9_judge 16 = .ok (.ifCond .ne 14, 3) := by decide +kernel
theorem dX9_judge_19 : decode cX9_judge 19 = .ok (.aload_n 3, 1) := by decide +kernel
theorem dX9_judge_20 : decode cX9_judge 20 = .ok (.getfield 273, 3) := by decide +kernel
theorem dX9_judge_23 : decode cX9_judge 23 = .ok (.iconst 1, 1) := by decide +kernel
theorem dX9_judge_24 : decode cX9_judge 24 = .ok (.if_icmp .eq 6, 3) := by decide +kernel
theorem dX9_judge_27 : decode cX9_judge 27 = .ok (.bipush (-12), 2) := by decide +kernel
theorem dX9_judge_29 : decode cX9_judge 29 = .ok (.ireturn, 1) := by decide +kernel
theorem dX9_judge_30 : decode cX9_judge 30 = .ok (.aload_n 0, 1) := by decide +kernel
theorem dX9_judge_31 : decode cX9_judge 31 = .ok (.getfield 12, 3) := by decide +kernel
theorem dX9_judge_34 : decode cX9_judge 34 = .ok (.getfield 71, 3) := by decide +kernel
theorem dX9_judge_37 : decode cX9_judge 37 = .ok (.getfield 74, 3) := by decide +kernel
theorem dX9_judge_40 : decode cX9_judge 40 = .ok (.astore 4, 2) := by decide +kernel
theorem dX9_judge_42 : decode cX9_judge 42 = .ok (.iconst 0, 1) := by decide +kernel
theorem dX9_judge_43 : decode cX9_judge 43 = .ok (.istore 5, 2) := by decide +kernel
theorem dX9_judge_45 : decode cX9_judge 45 = .ok (.iload 5, 2) := by decide +kernel
theorem dX9_judge_47 : decode cX9_judge 47 = .ok (.aload 4, 2) := by decide +kernel
theorem dX9_judge_49 : decode cX9_judge 49 = .ok (.getfield 78, 3) := by decide +kernel
theorem dX9_judge_52 : decode cX9_judge 52 = .ok (.if_icmp .gt 49, 3) := by decide +kernel
theorem dX9_judge_55 : decode cX9_judge 55 = .ok (.aload_n 3, 1) := by decide +kernel
theorem dX9_judge_56 : decode cX9_judge 56 = .ok (.iload_n 2, 1) := by decide +kernel
theorem dX9_judge_57 : decode cX9_judge 57 = .ok (.iload 5, 2) := by decide +kernel
theorem dX9_judge_59 : decode cX9_judge 59 = .ok (.iadd, 1) := by decide +kernel
theorem dX9_judge_60 : decode cX9_judge 60 = .ok (.invokevirtual 276, 3) := by decide +kernel
theorem dX9_judge_63 : decode cX9_judge 63 = .ok (.ifCond .ne 9, 3) := by decide +kernel
theorem dX9_judge_66 : decode cX9_judge 66 = .ok (.bipush 100, 2) := by decide +kernel
theorem dX9_judge_68 : decode cX9_judge 68 = .ok (.iload 5, 2) := by decide +kernel
theorem dX9_judge_70 : decode cX9_judge 70 = .ok (.iadd, 1) := by decide +kernel
theorem dX9_judge_71 : decode cX9_judge 71 = .ok (.ireturn, 1) := by decide +kernel
theorem dX9_judge_72 : decode cX9_judge 72 = .ok (.aload_n 3, 1) := by decide +kernel
theorem dX9_judge_73 : decode cX9_judge 73 = .ok (.iload_n 2, 1) := by decide +kernel
theorem dX9_judge_74 : decode cX9_judge 74 = .ok (.iload 5, 2) := by decide +kernel
theorem dX9_judge_76 : decode cX9_judge 76 = .ok (.iadd, 1) := by decide +kernel
theorem dX9_judge_77 : decode cX9_judge 77 = .ok (.invokevirtual 277, 3) := by decide +kernel
theorem dX9_judge_80 : decode cX9_judge 80 = .ok (.aload 4, 2) := by decide +kernel
theorem dX9_judge_82 : decode cX9_judge 82 = .ok (.iload 5, 2) := by decide +kernel
theorem dX9_judge_84 : decode cX9_judge 84 = .ok (.invokevirtual 92, 3) := by decide +kernel
theorem dX9_judge_87 : decode cX9_judge 87 = .ok (.i2l, 1) := by decide +kernel
theorem dX9_judge_88 : decode cX9_judge 88 = .ok (.lcmp, 1) := by decide +kernel
theorem dX9_judge_89 : decode cX9_judge 89 = .ok (.ifCond .eq 6, 3) := by decide +kernel
theorem dX9_judge_92 : decode cX9_judge 92 = .ok (.iload 5, 2) := by decide +kernel
theorem dX9_judge_94 : decode cX9_judge 94 = .ok (.ireturn, 1) := by decide +kernel
theorem dX9_judge_95 : decode cX9_judge 95 = .ok (.iinc 5 1, 3) := by decide +kernel
theorem dX9_judge_98 : decode cX9_judge 98 = .ok (.goto (-53), 3) := by decide +kernel
theorem dX9_judge_101 : decode cX9_judge 101 = .ok (.bipush (-5), 2) := by decide +kernel
theorem dX9_judge_103 : decode cX9_judge 103 = .ok (.ireturn, 1) := by decide +kernel
theorem dX9_image_0 : decode cX9_image 0 = .ok (.aload_n 0, 1) := by decide +kernel
theorem dX9_image_1 : decode cX9_image 1 = .ok (.getfield 18, 3) := by decide +kernel
theorem dX9_image_4 : decode cX9_image 4 = .ok (.aload_n 0, 1) := by decide +kernel
theorem dX9_image_5 : decode cX9_image 5 = .ok (.getfield 12, 3) := by decide +kernel
theorem dX9_image_8 : decode cX9_image 8 = .ok (.invokevirtual 279, 3) := by decide +kernel
theorem dX9_image_11 : decode cX9_image 11 = .ok (.aload_n 0, 1) := by decide +kernel
theorem dX9_image_12 : decode cX9_image 12 = .ok (.iconst 1, 1) := by decide +kernel
theorem dX9_image_13 : decode cX9_image 13 = .ok (.putfield 21, 3) := by decide +kernel
theorem dX9_image_16 : decode cX9_image 16 = .ok (.aload_n 0, 1) := by decide +kernel
theorem dX9_image_17 : decode cX9_image 17 = .ok (.getfield 12, 3) := by decide +kernel
theorem dX9_image_20 : decode cX9_image 20 = .ok (.getfield 71, 3) := by decide +kernel
theorem dX9_image_23 : decode cX9_image 23 = .ok (.getfield 74, 3) := by decide +kernel
theorem dX9_image_26 : decode cX9_image 26 = .ok (.getfield 78, 3) := by decide +kernel
theorem dX9_image_29 : decode cX9_image 29 = .ok (.ireturn, 1) := by decide +kernel
theorem dX9_undo_0 : decode cX9_undo 0 = .ok (.aload_n 0, 1) := by decide +kernel
theorem dX9_undo_1 : decode cX9_undo 1 = .ok (.getfield 21, 3) := by decide +kernel
theorem dX9_undo_4 : decode cX9_undo 4 = .ok (.ifCond .ne 6, 3) := by decide +kernel
theorem dX9_undo_7 : decode cX9_undo 7 = .ok (.bipush (-3), 2) := by decide +kernel
theorem dX9_undo_9 : decode cX9_undo 9 = .ok (.ireturn, 1) := by decide +kernel
theorem dX9_undo_10 : decode cX9_undo 10 = .ok (.aload_n 0, 1) := by decide +kernel
theorem dX9_undo_11 : decode cX9_undo 11 = .ok (.getfield 12, 3) := by decide +kernel
theorem dX9_undo_14 : decode cX9_undo 14 = .ok (.aload_n 0, 1) := by decide +kernel
theorem dX9_undo_15 : decode cX9_undo 15 = .ok (.getfield 18, 3) := by decide +kernel
theorem dX9_undo_18 : decode cX9_undo 18 = .ok (.invokevirtual 279, 3) := by decide +kernel
theorem dX9_undo_21 : decode cX9_undo 21 = .ok (.aload_n 0, 1) := by decide +kernel
theorem dX9_undo_22 : decode cX9_undo 22 = .ok (.getfield 12, 3) := by decide +kernel
theorem dX9_undo_25 : decode cX9_undo 25 = .ok (.getfield 71, 3) := by decide +kernel
theorem dX9_undo_28 : decode cX9_undo 28 = .ok (.getfield 74, 3) := by decide +kernel
theorem dX9_undo_31 : decode cX9_undo 31 = .ok (.getfield 78, 3) := by decide +kernel
theorem dX9_undo_34 : decode cX9_undo 34 = .ok (.ireturn, 1) := by decide +kernel
theorem dX9_count_0 : decode cX9_count 0 = .ok (.iload_n 1, 1) := by decide +kernel
theorem dX9_count_1 : decode cX9_count 1 = .ok (.tableswitch 72 0 3 #[31, 42, 53, 64], 31) := by decide +kernel
theorem dX9_count_32 : decode cX9_count 32 = .ok (.aload_n 0, 1) := by decide +kernel
theorem dX9_count_33 : decode cX9_count 33 = .ok (.getfield 12, 3) := by decide +kernel
theorem dX9_count_36 : decode cX9_count 36 = .ok (.getfield 213, 3) := by decide +kernel
theorem dX9_count_39 : decode cX9_count 39 = .ok (.getfield 133, 3) := by decide +kernel
theorem dX9_count_42 : decode cX9_count 42 = .ok (.ireturn, 1) := by decide +kernel
theorem dX9_count_43 : decode cX9_count 43 = .ok (.aload_n 0, 1) := by decide +kernel
theorem dX9_count_44 : decode cX9_count 44 = .ok (.getfield 12, 3) := by decide +kernel
theorem dX9_count_47 : decode cX9_count 47 = .ok (.getfield 244, 3) := by decide +kernel
theorem dX9_count_50 : decode cX9_count 50 = .ok (.getfield 133, 3) := by decide +kernel
theorem dX9_count_53 : decode cX9_count 53 = .ok (.ireturn, 1) := by decide +kernel
theorem dX9_count_54 : decode cX9_count 54 = .ok (.aload_n 0, 1) := by decide +kernel
theorem dX9_count_55 : decode cX9_count 55 = .ok (.getfield 12, 3) := by decide +kernel
theorem dX9_count_58 : decode cX9_count 58 = .ok (.getfield 256, 3) := by decide +kernel
theorem dX9_count_61 : decode cX9_count 61 = .ok (.getfield 133, 3) := by decide +kernel
theorem dX9_count_64 : decode cX9_count 64 = .ok (.ireturn, 1) := by decide +kernel
theorem dX9_count_65 : decode cX9_count 65 = .ok (.aload_n 0, 1) := by decide +kernel
theorem dX9_count_66 : decode cX9_count 66 = .ok (.getfield 56, 3) := by decide +kernel
theorem dX9_count_69 : decode cX9_count 69 = .ok (.getfield 122, 3) := by decide +kernel
theorem dX9_count_72 : decode cX9_count 72 = .ok (.ireturn, 1) := by decide +kernel
theorem dX9_count_73 : decode cX9_count 73 = .ok (.bipush (-2), 2) := by decide +kernel
theorem dX9_count_75 : decode cX9_count 75 = .ok (.ireturn, 1) := by decide +kernel
theorem dX9_tape_0 : decode cX9_tape 0 = .ok (.aload_n 0, 1) := by decide +kernel
theorem dX9_tape_1 : decode cX9_tape 1 = .ok (.iload_n 1, 1) := by decide +kernel
theorem dX9_tape_2 : decode cX9_tape 2 = .ok (.invokevirtual 265, 3) := by decide +kernel
theorem dX9_tape_5 : decode cX9_tape 5 = .ok (.astore 4, 2) := by decide +kernel
theorem dX9_tape_7 : decode cX9_tape 7 = .ok (.aload 4, 2) := by decide +kernel
theorem dX9_tape_9 : decode cX9_tape 9 = .ok (.ifnonnull 5, 3) := by decide +kernel
theorem dX9_tape_12 : decode cX9_tape 12 = .ok (.iconst (-1), 1) := by decide +kernel
theorem dX9_tape_13 : decode cX9_tape 13 = .ok (.ireturn, 1) := by decide +kernel
theorem dX9_tape_14 : decode cX9_tape 14 = .ok (.iload_n 2, 1) := by decide +kernel
theorem dX9_tape_15 : decode cX9_tape 15 = .ok (.iconst (-1), 1) := by decide +kernel
theorem dX9_tape_16 : decode cX9_tape 16 = .ok (.if_icmp .ne 12, 3) := by decide +kernel
theorem dX9_tape_19 : decode cX9_tape 19 = .ok (.aload 4, 2) := by decide +kernel
theorem dX9_tape_21 : decode cX9_tape 21 = .ok (.iconst (-1), 1) := by decide +kernel
theorem dX9_tape_22 : decode cX9_tape 22 = .ok (.iconst 0, 1) := by decide +kernel
theorem dX9_tape_23 : decode cX9_tape 23 = .ok (.invokevirtual 282, 3) := by decide +kernel
theorem dX9_tape_26 : decode cX9_tape 26 = .ok (.iconst 1, 1) := by decide +kernel
theorem dX9_tape_27 : decode cX9_tape 27 = .ok (.ireturn, 1) := by decide +kernel
theorem dX9_tape_28 : decode cX9_tape 28 = .ok (.iload_n 2, 1) := by decide +kernel
theorem dX9_tape_29 : decode cX9_tape 29 = .ok (.iconst 0, 1) := by decide +kernel
theorem dX9_tape_30 : decode cX9_tape 30 = .ok (.iconst 4, 1) := by decide +kernel
theorem dX9_tape_31 : decode cX9_tape 31 = .ok (.invokestatic 67, 3) := by decide +kernel
theorem dX9_tape_34 : decode cX9_tape 34 = .ok (.ifCond .eq 9, 3) := by decide +kernel
theorem dX9_tape_37 : decode cX9_tape 37 = .ok (.iload_n 3, 1) := by decide +kernel
theorem dX9_tape_38 : decode cX9_tape 38 = .ok (.bipush 60, 2) := by decide +kernel
theorem dX9_tape_40 : decode cX9_tape 40 = .ok (.if_icmp .le 6, 3) := by decide +kernel
theorem dX9_tape_43 : decode cX9_tape 43 = .ok (.bipush (-2), 2) := by decide +kernel
theorem dX9_tape_45 : decode cX9_tape 45 = .ok (.ireturn, 1) := by decide +kernel
theorem dX9_tape_46 : decode cX9_tape 46 = .ok (.iload_n 3, 1) := by decide +kernel
theorem dX9_tape_47 : decode cX9_tape 47 = .ok (.ifCond .ge 6, 3) := by decide +kernel
theorem dX9_tape_50 : decode cX9_tape 50 = .ok (.bipush (-14), 2) := by decide +kernel
theorem dX9_tape_52 : decode cX9_tape 52 = .ok (.ireturn, 1) := by decide +kernel
theorem dX9_tape_53 : decode cX9_tape 53 = .ok (.aload 4, 2) := by decide +kernel
theorem dX9_tape_55 : decode cX9_tape 55 = .ok (.iload_n 2, 1) := by decide +kernel
theorem dX9_tape_56 : decode cX9_tape 56 = .ok (.iload_n 3, 1) := by decide +kernel
theorem dX9_tape_57 : decode cX9_tape 57 = .ok (.invokevirtual 282, 3) := by decide +kernel
theorem dX9_tape_60 : decode cX9_tape 60 = .ok (.iconst 1, 1) := by decide +kernel
theorem dX9_tape_61 : decode cX9_tape 61 = .ok (.ireturn, 1) := by decide +kernel
theorem dX9_item_0 : decode cX9_item 0 = .ok (.aload_n 0, 1) := by decide +kernel
theorem dX9_item_1 : decode cX9_item 1 = .ok (.iload_n 1, 1) := by decide +kernel
theorem dX9_item_2 : decode cX9_item 2 = .ok (.invokevirtual 265, 3) := by decide +kernel
theorem dX9_item_5 : decode cX9_item 5 = .ok (.astore 5, 2) := by decide +kernel
theorem dX9_item_7 : decode cX9_item 7 = .ok (.aload 5, 2) := by decide +kernel
theorem dX9_item_9 : decode cX9_item 9 = .ok (.ifnonnull 5, 3) := by decide +kernel
theorem dX9_item_12 : decode cX9_item 12 = .ok (.iconst (-1), 1) := by decide +kernel
theorem dX9_item_13 : decode cX9_item 13 = .ok (.ireturn, 1) := by decide +kernel
theorem dX9_item_14 : decode cX9_item 14 = .ok (.aload 5, 2) := by decide +kernel
theorem dX9_item_16 : decode cX9_item 16 = .ok (.invokevirtual 269, 3) := by decide +kernel
theorem dX9_item_19 : decode cX9_item 19 = .ok (.ifCond .eq 6, 3) := by decide +kernel
theorem dX9_item_22 : decode cX9_item 22 = .ok (.bipush (-11), 2) := by decide +kernel
theorem dX9_item_24 : decode cX9_item 24 = .ok (.ireturn, 1) := by decide +kernel
theorem dX9_item_25 : decode cX9_item 25 = .ok (.aload 5, 2) := by decide +kernel
theorem dX9_item_27 : decode cX9_item 27 = .ok (.iload_n 2, 1) := by decide +kernel
theorem dX9_item_28 : decode cX9_item 28 = .ok (.invokevirtual 276, 3) := by decide +kernel
theorem dX9_item_31 : decode cX9_item 31 = .ok (.ifCond .ne 6, 3) := by decide +kernel
theorem dX9_item_34 : decode cX9_item 34 = .ok (.bipush (-13), 2) := by decide +kernel
theorem dX9_item_36 : decode cX9_item 36 = .ok (.ireturn, 1) := by decide +kernel
theorem dX9_item_37 : decode cX9_item 37 = .ok (.aload 5, 2) := by decide +kernel
theorem dX9_item_39 : decode cX9_item 39 = .ok (.iload_n 2, 1) := by decide +kernel
theorem dX9_item_40 : decode cX9_item 40 = .ok (.lload_n 3, 1) := by decide +kernel
theorem dX9_item_41 : decode cX9_item 41 = .ok (.invokevirtual 285, 3) := by decide +kernel
theorem dX9_item_44 : decode cX9_item 44 = .ok (.iconst 1, 1) := by decide +kernel
theorem dX9_item_45 : decode cX9_item 45 = .ok (.ireturn, 1) := by decide +kernel
theorem dX9_peek_0 : decode cX9_peek 0 = .ok (.aload_n 0, 1) := by decide +kernel
theorem dX9_peek_1 : decode cX9_peek 1 = .ok (.iload_n 1, 1) := by decide +kernel
theorem dX9_peek_2 : decode cX9_peek 2 = .ok (.invokevirtual 265, 3) := by decide +kernel
theorem dX9_peek_5 : decode cX9_peek 5 = .ok (.astore_n 3, 1) := by decide +kernel
theorem dX9_peek_6 : decode cX9_peek 6 = .ok (.aload_n 3, 1) := by decide +kernel
theorem dX9_peek_7 : decode cX9_peek 7 = .ok (.ifnull 19, 3) := by decide +kernel
theorem dX9_peek_10 : decode cX9_peek 10 = .ok (.aload_n 3, 1) := by decide +kernel
theorem dX9_peek_11 : decode cX9_peek 11 = .ok (.iload_n 2, 1) := by decide +kernel
theorem dX9_peek_12 : decode cX9_peek 12 = .ok (.invokevirtual 276, 3) := by decide +kernel
theorem dX9_peek_15 : decode cX9_peek 15 = .ok (.ifCond .eq 11, 3) := by decide +kernel
theorem dX9_peek_18 : decode cX9_peek 18 = .ok (.aload_n 3, 1) := by decide +kernel
theorem dX9_peek_19 : decode cX9_peek 19 = .ok (.iload_n 2, 1) := by decide +kernel
theorem dX9_peek_20 : decode cX9_peek 20 = .ok (.invokevirtual 277, 3) := by decide +kernel
theorem dX9_peek_23 : decode cX9_peek 23 = .ok (.goto 6, 3) := by decide +kernel
theorem dX9_peek_26 : decode cX9_peek 26 = .ok (.ldc2_w 163, 3) := by decide +kernel
theorem dX9_peek_29 : decode cX9_peek 29 = .ok (.lreturn, 1) := by decide +kernel
theorem dX9_shift_0 : decode cX9_shift 0 = .ok (.aload_n 0, 1) := by decide +kernel
theorem dX9_shift_1 : decode cX9_shift 1 = .ok (.iload_n 1, 1) := by decide +kernel
theorem dX9_shift_2 : decode cX9_shift 2 = .ok (.invokevirtual 265, 3) := by decide +kernel
theorem dX9_shift_5 : decode cX9_shift 5 = .ok (.astore 6, 2) := by decide +kernel
theorem dX9_shift_7 : decode cX9_shift 7 = .ok (.aload_n 0, 1) := by decide +kernel
theorem dX9_shift_8 : decode cX9_shift 8 = .ok (.iload_n 3, 1) := by decide +kernel
theorem dX9_shift_9 : decode cX9_shift 9 = .ok (.invokevirtual 265, 3) := by decide +kernel
theorem dX9_shift_12 : decode cX9_shift 12 = .ok (.astore 7, 2) := by decide +kernel
theorem dX9_shift_14 : decode cX9_shift 14 = .ok (.aload 6, 2) := by decide +kernel
theorem dX9_shift_16 : decode cX9_shift 16 = .ok (.ifnull 8, 3) := by decide +kernel
theorem dX9_shift_19 : decode cX9_shift 19 = .ok (.aload 7, 2) := by decide +kernel
theorem dX9_shift_21 : decode cX9_shift 21 = .ok (.ifnonnull 5, 3) := by decide +kernel
theorem dX9_shift_24 : decode cX9_shift 24 = .ok (.iconst (-1), 1) := by decide +kernel
theorem dX9_shift_25 : decode cX9_shift 25 = .ok (.ireturn, 1) := by decide +kernel
theorem dX9_shift_26 : decode cX9_shift 26 = .ok (.aload 6, 2) := by decide +kernel
theorem dX9_shift_28 : decode cX9_shift 28 = .ok (.invokevirtual 269, 3) := by decide +kernel
theorem dX9_shift_31 : decode cX9_shift 31 = .ok (.ifCond .ne 11, 3) := by decide +kernel
theorem dX9_shift_34 : decode cX9_shift 34 = .ok (.aload 7, 2) := by decide +kernel
theorem dX9_shift_36 : decode cX9_shift 36 = .ok (.invokevirtual 269, 3) := by decide +kernel
theorem dX9_shift_39 : decode cX9_shift 39 = .ok (.ifCond .eq 6, 3) := by decide +kernel
theorem dX9_shift_42 : decode cX9_shift 42 = .ok (.bipush (-11), 2) := by decide +kernel
theorem dX9_shift_44 : decode cX9_shift 44 = .ok (.ireturn, 1) := by decide +kernel
theorem dX9_shift_45 : decode cX9_shift 45 = .ok (.aload 6, 2) := by decide +kernel
theorem dX9_shift_47 : decode cX9_shift 47 = .ok (.getfield 273, 3) := by decide +kernel
theorem dX9_shift_50 : decode cX9_shift 50 = .ok (.aload 7, 2) := by decide +kernel
theorem dX9_shift_52 : decode cX9_shift 52 = .ok (.getfield 273, 3) := by decide +kernel
theorem dX9_shift_55 : decode cX9_shift 55 = .ok (.if_icmp .eq 6, 3) := by decide +kernel
theorem dX9_shift_58 : decode cX9_shift 58 = .ok (.bipush (-12), 2) := by decide +kernel
theorem dX9_shift_60 : decode cX9_shift 60 = .ok (.ireturn, 1) := by decide +kernel
theorem dX9_shift_61 : decode cX9_shift 61 = .ok (.aload 6, 2) := by decide +kernel
theorem dX9_shift_63 : decode cX9_shift 63 = .ok (.iload_n 2, 1) := by decide +kernel
theorem dX9_shift_64 : decode cX9_shift 64 = .ok (.iload 5, 2) := by decide +kernel
theorem dX9_shift_66 : decode cX9_shift 66 = .ok (.invokevirtual 288, 3) := by decide +kernel
theorem dX9_shift_69 : decode cX9_shift 69 = .ok (.ifCond .eq 15, 3) := by decide +kernel
theorem dX9_shift_72 : decode cX9_shift 72 = .ok (.aload 7, 2) := by decide +kernel
theorem dX9_shift_74 : decode cX9_shift 74 = .ok (.iload 4, 2) := by decide +kernel
theorem dX9_shift_76 : decode cX9_shift 76 = .ok (.iload 5, 2) := by decide +kernel
theorem dX9_shift_78 : decode cX9_shift 78 = .ok (.invokevirtual 288, 3) := by decide +kernel
theorem dX9_shift_81 : decode cX9_shift 81 = .ok (.ifCond .ne 6, 3) := by decide +kernel
theorem dX9_shift_84 : decode cX9_shift 84 = .ok (.bipush (-13), 2) := by decide +kernel
theorem dX9_shift_86 : decode cX9_shift 86 = .ok (.ireturn, 1) := by decide +kernel
theorem dX9_shift_87 : decode cX9_shift 87 = .ok (.aload 6, 2) := by decide +kernel
theorem dX9_shift_89 : decode cX9_shift 89 = .ok (.getfield 292, 3) := by decide +kernel
theorem dX9_shift_92 : decode cX9_shift 92 = .ok (.iload_n 2, 1) := by decide +kernel
theorem dX9_shift_93 : decode cX9_shift 93 = .ok (.aload 7, 2) := by decide +kernel
theorem dX9_shift_95 : decode cX9_shift 95 = .ok (.getfield 292, 3) := by decide +kernel
theorem dX9_shift_98 : decode cX9_shift 98 = .ok (.iload 4, 2) := by decide +kernel
theorem dX9_shift_100 : decode cX9_shift 100 = .ok (.iload 5, 2) := by decide +kernel
theorem dX9_shift_102 : decode cX9_shift 102 = .ok (.invokestatic 296, 3) := by decide +kernel
theorem dX9_shift_105 : decode cX9_shift 105 = .ok (.iload 5, 2) := by decide +kernel
theorem dX9_shift_107 : decode cX9_shift 107 = .ok (.ireturn, 1) := by decide +kernel
theorem dX9_between_0 : decode cX9_between 0 = .ok (.iload_n 0, 1) := by decide +kernel
theorem dX9_between_1 : decode cX9_between 1 = .ok (.iload_n 1, 1) := by decide +kernel
theorem dX9_between_2 : decode cX9_between 2 = .ok (.if_icmp .lt 12, 3) := by decide +kernel
theorem dX9_between_5 : decode cX9_between 5 = .ok (.iload_n 0, 1) := by decide +kernel
theorem dX9_between_6 : decode cX9_between 6 = .ok (.iload_n 2, 1) := by decide +kernel
theorem dX9_between_7 : decode cX9_between 7 = .ok (.if_icmp .gt 7, 3) := by decide +kernel
theorem dX9_between_10 : decode cX9_between 10 = .ok (.iconst 1, 1) := by decide +kernel
theorem dX9_between_11 : decode cX9_between 11 = .ok (.goto 4, 3) := by decide +kernel
theorem dX9_between_14 : decode cX9_between 14 = .ok (.iconst 0, 1) := by decide +kernel
theorem dX9_between_15 : decode cX9_between 15 = .ok (.ireturn, 1) := by decide +kernel
theorem dX9_isTurn_0 : decode cX9_isTurn 0 = .ok (.iload_n 0, 1) := by decide +kernel
theorem dX9_isTurn_1 : decode cX9_isTurn 1 = .ok (.bipush (-9), 2) := by decide +kernel
theorem dX9_isTurn_3 : decode cX9_isTurn 3 = .ok (.bipush 9, 2) := by decide +kernel
theorem dX9_isTurn_5 : decode cX9_isTurn 5 = .ok (.invokestatic 67, 3) := by decide +kernel
theorem dX9_isTurn_8 : decode cX9_isTurn 8 = .ok (.ireturn, 1) := by decide +kernel
theorem dX9_lowest_0 : decode cX9_lowest 0 = .ok (.lload_n 0, 1) := by decide +kernel
theorem dX9_lowest_1 : decode cX9_lowest 1 = .ok (.invokestatic 302, 3) := by decide +kernel
theorem dX9_lowest_4 : decode cX9_lowest 4 = .ok (.lload_n 2, 1) := by decide +kernel
theorem dX9_lowest_5 : decode cX9_lowest 5 = .ok (.invokestatic 308, 3) := by decide +kernel
theorem dX9_lowest_8 : decode cX9_lowest 8 = .ok (.lstore 5, 2) := by decide +kernel
theorem dX9_lowest_10 : decode cX9_lowest 10 = .ok (.lload 5, 2) := by decide +kernel
theorem dX9_lowest_12 : decode cX9_lowest 12 = .ok (.lconst 1, 1) := by decide +kernel
theorem dX9_lowest_13 : decode cX9_lowest 13 = .ok (.lcmp, 1) := by decide +kernel
theorem dX9_lowest_14 : decode cX9_lowest 14 = .ok (.ifCond .ge 7, 3) := by decide +kernel
theorem dX9_lowest_17 : decode cX9_lowest 17 = .ok (.ldc2_w 163, 3) := by decide +kernel
theorem dX9_lowest_20 : decode cX9_lowest 20 = .ok (.lreturn, 1) := by decide +kernel
theorem dX9_lowest_21 : decode cX9_lowest 21 = .ok (.iload 4, 2) := by decide +kernel
theorem dX9_lowest_23 : decode cX9_lowest 23 = .ok (.ifCond .ne 10, 3) := by decide +kernel
theorem dX9_lowest_26 : decode cX9_lowest 26 = .ok (.lload_n 0, 1) := by decide +kernel
theorem dX9_lowest_27 : decode cX9_lowest 27 = .ok (.lload 5, 2) := by decide +kernel
theorem dX9_lowest_29 : decode cX9_lowest 29 = .ok (.ldiv, 1) := by decide +kernel
theorem dX9_lowest_30 : decode cX9_lowest 30 = .ok (.goto 7, 3) := by decide +kernel
theorem dX9_lowest_33 : decode cX9_lowest 33 = .ok (.lload_n 2, 1) := by decide +kernel
theorem dX9_lowest_34 : decode cX9_lowest 34 = .ok (.lload 5, 2) := by decide +kernel
theorem dX9_lowest_36 : decode cX9_lowest 36 = .ok (.ldiv, 1) := by decide +kernel
theorem dX9_lowest_37 : decode cX9_lowest 37 = .ok (.lreturn, 1) := by decide +kernel
theorem dX9_commonDivisor_0 : decode cX9_commonDivisor 0 = .ok (.lload_n 0, 1) := by decide +kernel
theorem dX9_commonDivisor_1 : decode cX9_commonDivisor 1 = .ok (.lstore 4, 2) := by decide +kernel
theorem dX9_commonDivisor_3 : decode cX9_commonDivisor 3 = .ok (.lload_n 2, 1) := by decide +kernel
theorem dX9_commonDivisor_4 : decode cX9_commonDivisor 4 = .ok (.lstore 6, 2) := by decide +kernel
theorem dX9_commonDivisor_6 : decode cX9_commonDivisor 6 = .ok (.iconst 0, 1) := by decide +kernel
theorem dX9_commonDivisor_7 : decode cX9_commonDivisor 7 = .ok (.istore 8, 2) := by decide +kernel
theorem dX9_commonDivisor_9 : decode cX9_commonDivisor 9 = .ok (.iload 8, 2) := by decide +kernel
theorem dX9_commonDivisor_11 : decode cX9_commonDivisor 11 = .ok (.sipush 128, 3) := by decide +kernel
theorem dX9_commonDivisor_14 : decode cX9_commonDivisor 14 = .ok (.if_icmp .ge 31, 3) := by decide +kernel
theorem dX9_commonDivisor_17 : decode cX9_commonDivisor 17 = .ok (.lload 6, 2) := by decide +kernel
theorem dX9_commonDivisor_19 : decode cX9_commonDivisor 19 = .ok (.lconst 0, 1) := by decide +kernel
theorem dX9_commonDivisor_20 : decode cX9_commonDivisor 20 = .ok (.lcmp, 1) := by decide +kernel
theorem dX9_commonDivisor_21 : decode cX9_commonDivisor 21 = .ok (.ifCond .eq 24, 3) := by decide +kernel
theorem dX9_commonDivisor_24 : decode cX9_commonDivisor 24 = .ok (.lload 4, 2) := by decide +kernel
theorem dX9_commonDivisor_26 : decode cX9_commonDivisor 26 = .ok (.lload 6, 2) := by decide +kernel
theorem dX9_commonDivisor_28 : decode cX9_commonDivisor 28 = .ok (.lrem, 1) := by decide +kernel
theorem dX9_commonDivisor_29 : decode cX9_commonDivisor 29 = .ok (.lstore 9, 2) := by decide +kernel
theorem dX9_commonDivisor_31 : decode cX9_commonDivisor 31 = .ok (.lload 6, 2) := by decide +kernel
theorem dX9_commonDivisor_33 : decode cX9_commonDivisor 33 = .ok (.lstore 4, 2) := by decide +kernel
theorem dX9_commonDivisor_35 : decode cX9_commonDivisor 35 = .ok (.lload 9, 2) := by decide +kernel
theorem dX9_commonDivisor_37 : decode cX9_commonDivisor 37 = .ok (.lstore 6, 2) := by decide +kernel
theorem dX9_commonDivisor_39 : decode cX9_commonDivisor 39 = .ok (.iinc 8 1, 3) := by decide +kernel
theorem dX9_commonDivisor_42 : decode cX9_commonDivisor 42 = .ok (.goto (-33), 3) := by decide +kernel
theorem dX9_commonDivisor_45 : decode cX9_commonDivisor 45 = .ok (.lload 4, 2) := by decide +kernel
theorem dX9_commonDivisor_47 : decode cX9_commonDivisor 47 = .ok (.lreturn, 1) := by decide +kernel
theorem dX9_answersNow_0 : decode cX9_answersNow 0 = .ok (.aload_n 0, 1) := by decide +kernel
theorem dX9_answersNow_1 : decode cX9_answersNow 1 = .ok (.getfield 35, 3) := by decide +kernel
theorem dX9_answersNow_4 : decode cX9_answersNow 4 = .ok (.aload_n 0, 1) := by decide +kernel
theorem dX9_answersNow_5 : decode cX9_answersNow 5 = .ok (.getfield 12, 3) := by decide +kernel
theorem dX9_answersNow_8 : decode cX9_answersNow 8 = .ok (.getfield 71, 3) := by decide +kernel
theorem dX9_answersNow_11 : decode cX9_answersNow 11 = .ok (.invokevirtual 311, 3) := by decide +kernel
theorem dX9_answersNow_14 : decode cX9_answersNow 14 = .ok (.aload_n 0, 1) := by decide +kernel
theorem dX9_answersNow_15 : decode cX9_answersNow 15 = .ok (.getfield 35, 3) := by decide +kernel
theorem dX9_answersNow_18 : decode cX9_answersNow 18 = .ok (.areturn, 1) := by decide +kernel
theorem dX9_answersInFamilies_0 : decode cX9_answersInFamilies 0 = .ok (.aload_n 0, 1) := by decide +kernel
theorem dX9_answersInFamilies_1 : decode cX9_answersInFamilies 1 = .ok (.getfield 35, 3) := by decide +kernel
theorem dX9_answersInFamilies_4 : decode cX9_answersInFamilies 4 = .ok (.aload_n 0, 1) := by decide +kernel
theorem dX9_answersInFamilies_5 : decode cX9_answersInFamilies 5 = .ok (.getfield 12, 3) := by decide +kernel
theorem dX9_answersInFamilies_8 : decode cX9_answersInFamilies 8 = .ok (.getfield 71, 3) := by decide +kernel
theorem dX9_answersInFamilies_11 : decode cX9_answersInFamilies 11 = .ok (.invokevirtual 311, 3) := by decide +kernel
theorem dX9_answersInFamilies_14 : decode cX9_answersInFamilies 14 = .ok (.aload_n 0, 1) := by decide +kernel
theorem dX9_answersInFamilies_15 : decode cX9_answersInFamilies 15 = .ok (.getfield 35, 3) := by decide +kernel
theorem dX9_answersInFamilies_18 : decode cX9_answersInFamilies 18 = .ok (.aload_n 0, 1) := by decide +kernel
theorem dX9_answersInFamilies_19 : decode cX9_answersInFamilies 19 = .ok (.getfield 42, 3) := by decide +kernel
theorem dX9_answersInFamilies_22 : decode cX9_answersInFamilies 22 = .ok (.invokevirtual 314, 3) := by decide +kernel
theorem dX9_answersInFamilies_25 : decode cX9_answersInFamilies 25 = .ok (.aload_n 0, 1) := by decide +kernel
theorem dX9_answersInFamilies_26 : decode cX9_answersInFamilies 26 = .ok (.getfield 35, 3) := by decide +kernel
theorem dX9_answersInFamilies_29 : decode cX9_answersInFamilies 29 = .ok (.areturn, 1) := by decide +kernel
theorem dX9_unitsNow_0 : decode cX9_unitsNow 0 = .ok (.aload_n 0, 1) := by decide +kernel
theorem dX9_unitsNow_1 : decode cX9_unitsNow 1 = .ok (.getfield 42, 3) := by decide +kernel
theorem dX9_unitsNow_4 : decode cX9_unitsNow 4 = .ok (.aload_n 0, 1) := by decide +kernel
theorem dX9_unitsNow_5 : decode cX9_unitsNow 5 = .ok (.getfield 12, 3) := by decide +kernel
theorem dX9_unitsNow_8 : decode cX9_unitsNow 8 = .ok (.getfield 71, 3) := by decide +kernel
theorem dX9_unitsNow_11 : decode cX9_unitsNow 11 = .ok (.getfield 74, 3) := by decide +kernel
theorem dX9_unitsNow_14 : decode cX9_unitsNow 14 = .ok (.invokevirtual 253, 3) := by decide +kernel
theorem dX9_unitsNow_17 : decode cX9_unitsNow 17 = .ok (.aload_n 0, 1) := by decide +kernel
theorem dX9_unitsNow_18 : decode cX9_unitsNow 18 = .ok (.getfield 42, 3) := by decide +kernel
theorem dX9_unitsNow_21 : decode cX9_unitsNow 21 = .ok (.areturn, 1) := by decide +kernel
theorem dX9_partsNow_0 : decode cX9_partsNow 0 = .ok (.aload_n 0, 1) := by decide +kernel
theorem dX9_partsNow_1 : decode cX9_partsNow 1 = .ok (.getfield 49, 3) := by decide +kernel
theorem dX9_partsNow_4 : decode cX9_partsNow 4 = .ok (.aload_n 0, 1) := by decide +kernel
theorem dX9_partsNow_5 : decode cX9_partsNow 5 = .ok (.getfield 12, 3) := by decide +kernel
theorem dX9_partsNow_8 : decode cX9_partsNow 8 = .ok (.getfield 71, 3) := by decide +kernel
theorem dX9_partsNow_11 : decode cX9_partsNow 11 = .ok (.getfield 74, 3) := by decide +kernel
theorem dX9_partsNow_14 : decode cX9_partsNow 14 = .ok (.invokevirtual 318, 3) := by decide +kernel
theorem dX9_partsNow_17 : decode cX9_partsNow 17 = .ok (.aload_n 0, 1) := by decide +kernel
theorem dX9_partsNow_18 : decode cX9_partsNow 18 = .ok (.getfield 49, 3) := by decide +kernel
theorem dX9_partsNow_21 : decode cX9_partsNow 21 = .ok (.areturn, 1) := by decide +kernel
theorem dX9_convergentAnswers_0 : decode cX9_convergentAnswers 0 = .ok (.aload_n 0, 1) := by decide +kernel
theorem dX9_convergentAnswers_1 : decode cX9_convergentAnswers 1 = .ok (.invokevirtual 155, 3) := by decide +kernel
theorem dX9_convergentAnswers_4 : decode cX9_convergentAnswers 4 = .ok (.astore_n 1, 1) := by decide +kernel
theorem dX9_convergentAnswers_5 : decode cX9_convergentAnswers 5 = .ok (.iconst 0, 1) := by decide +kernel
theorem dX9_convergentAnswers_6 : decode cX9_convergentAnswers 6 = .ok (.istore_n 2, 1) := by decide +kernel
theorem dX9_convergentAnswers_7 : decode cX9_convergentAnswers 7 = .ok (.iconst 0, 1) := by decide +kernel
theorem dX9_convergentAnswers_8 : decode cX9_convergentAnswers 8 = .ok (.istore_n 3, 1) := by decide +kernel
theorem dX9_convergentAnswers_9 : decode cX9_convergentAnswers 9 = .ok (.iload_n 3, 1) := by decide +kernel
theorem dX9_convergentAnswers_10 : decode cX9_convergentAnswers 10 = .ok (.aload_n 1, 1) := by decide +kernel
theorem dX9_convergentAnswers_11 : decode cX9_convergentAnswers 11 = .ok (.getfield 159, 3) := by decide +kernel
theorem dX9_convergentAnswers_14 : decode cX9_convergentAnswers 14 = .ok (.if_icmp .ge 35, 3) := by decide +kernel
theorem dX9_convergentAnswers_17 : decode cX9_convergentAnswers 17 = .ok (.aload_n 0, 1) := by decide +kernel
theorem dX9_convergentAnswers_18 : decode cX9_convergentAnswers 18 = .ok (.getfield 12, 3) := by decide +kernel
theorem dX9_convergentAnswers_21 : decode cX9_convergentAnswers 21 = .ok (.getfield 71, 3) := by decide +kernel
theorem dX9_convergentAnswers_24 : decode cX9_convergentAnswers 24 = .ok (.aload_n 1, 1) := by decide +kernel
theorem dX9_convergentAnswers_25 : decode cX9_convergentAnswers 25 = .ok (.iload_n 3, 1) := by decide +kernel
theorem dX9_convergentAnswers_26 : decode cX9_convergentAnswers 26 = .ok (.invokevirtual 206, 3) := by decide +kernel
theorem dX9_convergentAnswers_29 : decode cX9_convergentAnswers 29 = .ok (.aload_n 1, 1) := by decide +kernel
theorem dX9_convergentAnswers_30 : decode cX9_convergentAnswers 30 = .ok (.iload_n 3, 1) := by decide +kernel
theorem dX9_convergentAnswers_31 : decode cX9_convergentAnswers 31 = .ok (.invokevirtual 210, 3) := by decide +kernel
theorem dX9_convergentAnswers_34 : decode cX9_convergentAnswers 34 = .ok (.invokevirtual 319, 3) := by decide +kernel
theorem dX9_convergentAnswers_37 : decode cX9_convergentAnswers 37 = .ok (.ifCond .eq 6, 3) := by decide +kernel
theorem dX9_convergentAnswers_40 : decode cX9_convergentAnswers 40 = .ok (.iinc 2 1, 3) := by decide +kernel
theorem dX9_convergentAnswers_43 : decode cX9_convergentAnswers 43 = .ok (.iinc 3 1, 3) := by decide +kernel
theorem dX9_convergentAnswers_46 : decode cX9_convergentAnswers 46 = .ok (.goto (-37), 3) := by decide +kernel
theorem dX9_convergentAnswers_49 : decode cX9_convergentAnswers 49 = .ok (.iload_n 2, 1) := by decide +kernel
theorem dX9_convergentAnswers_50 : decode cX9_convergentAnswers 50 = .ok (.ireturn, 1) := by decide +kernel
theorem dX9_clauseAnswer_0 : decode cX9_clauseAnswer 0 = .ok (.aload_n 0, 1) := by decide +kernel
theorem dX9_clauseAnswer_1 : decode cX9_clauseAnswer 1 = .ok (.getfield 56, 3) := by decide +kernel
theorem dX9_clauseAnswer_4 : decode cX9_clauseAnswer 4 = .ok (.getfield 129, 3) := by decide +kernel
theorem dX9_clauseAnswer_7 : decode cX9_clauseAnswer 7 = .ok (.iload_n 1, 1) := by decide +kernel
theorem dX9_clauseAnswer_8 : decode cX9_clauseAnswer 8 = .ok (.invokevirtual 262, 3) := by decide +kernel
theorem dX9_clauseAnswer_11 : decode cX9_clauseAnswer 11 = .ok (.istore_n 2, 1) := by decide +kernel
theorem dX9_clauseAnswer_12 : decode cX9_clauseAnswer 12 = .ok (.aload_n 0, 1) := by decide +kernel
theorem dX9_clauseAnswer_13 : decode cX9_clauseAnswer 13 = .ok (.getfield 56, 3) := by decide +kernel
theorem dX9_clauseAnswer_16 : decode cX9_clauseAnswer 16 = .ok (.getfield 129, 3) := by decide +kernel
theorem dX9_clauseAnswer_19 : decode cX9_clauseAnswer 19 = .ok (.iload_n 1, 1) := by decide +kernel
theorem dX9_clauseAnswer_20 : decode cX9_clauseAnswer 20 = .ok (.invokevirtual 323, 3) := by decide +kernel
theorem dX9_clauseAnswer_23 : decode cX9_clauseAnswer 23 = .ok (.istore_n 3, 1) := by decide +kernel
theorem dX9_clauseAnswer_24 : decode cX9_clauseAnswer 24 = .ok (.aload_n 0, 1) := by decide +kernel
theorem dX9_clauseAnswer_25 : decode cX9_clauseAnswer 25 = .ok (.getfield 56, 3) := by decide +kernel
theorem dX9_clauseAnswer_28 : decode cX9_clauseAnswer 28 = .ok (.getfield 129, 3) := by decide +kernel
theorem dX9_clauseAnswer_31 : decode cX9_clauseAnswer 31 = .ok (.iload_n 1, 1) := by decide +kernel
theorem dX9_clauseAnswer_32 : decode cX9_clauseAnswer 32 = .ok (.invokevirtual 259, 3) := by decide +kernel
theorem dX9_clauseAnswer_35 : decode cX9_clauseAnswer 35 = .ok (.lookupswitch 80 #[(61, 62), (97, 55), (100, 49), (116, 74), (119, 68)], 49) := by decide +kernel
theorem dX9_clauseAnswer_84 : decode cX9_clauseAnswer 84 = .ok (.aload_n 0, 1) := by decide +kernel
theorem dX9_clauseAnswer_85 : decode cX9_clauseAnswer 85 = .ok (.iload_n 2, 1) := by decide +kernel
theorem dX9_clauseAnswer_86 : decode cX9_clauseAnswer 86 = .ok (.invokevirtual 326, 3) := by decide +kernel
theorem dX9_clauseAnswer_89 : decode cX9_clauseAnswer 89 = .ok (.ireturn, 1) := by decide +kernel
theorem dX9_clauseAnswer_90 : decode cX9_clauseAnswer 90 = .ok (.aload_n 0, 1) := by decide +kernel
theorem dX9_clauseAnswer_91 : decode cX9_clauseAnswer 91 = .ok (.iload_n 2, 1) := by decide +kernel
theorem dX9_clauseAnswer_92 : decode cX9_clauseAnswer 92 = .ok (.iload_n 3, 1) := by decide +kernel
theorem dX9_clauseAnswer_93 : decode cX9_clauseAnswer 93 = .ok (.invokevirtual 328, 3) := by decide +kernel
theorem dX9_clauseAnswer_96 : decode cX9_clauseAnswer 96 = .ok (.ireturn, 1) := by decide +kernel
theorem dX9_clauseAnswer_97 : decode cX9_clauseAnswer 97 = .ok (.aload_n 0, 1) := by decide +kernel
theorem dX9_clauseAnswer_98 : decode cX9_clauseAnswer 98 = .ok (.iload_n 3, 1) := by decide +kernel
theorem dX9_clauseAnswer_99 : decode cX9_clauseAnswer 99 = .ok (.invokevirtual 331, 3) := by decide +kernel
theorem dX9_clauseAnswer_102 : decode cX9_clauseAnswer 102 = .ok (.ireturn, 1) := by decide +kernel
theorem dX9_clauseAnswer_103 : decode cX9_clauseAnswer 103 = .ok (.aload_n 0, 1) := by decide +kernel
theorem dX9_clauseAnswer_104 : decode cX9_clauseAnswer 104 = .ok (.iload_n 3, 1) := by decide +kernel
theorem dX9_clauseAnswer_105 : decode cX9_clauseAnswer 105 = .ok (.invokevirtual 334, 3) := by decide +kernel
theorem dX9_clauseAnswer_108 : decode cX9_clauseAnswer 108 = .ok (.ireturn, 1) := by decide +kernel
theorem dX9_clauseAnswer_109 : decode cX9_clauseAnswer 109 = .ok (.aload_n 0, 1) := by decide +kernel
theorem dX9_clauseAnswer_110 : decode cX9_clauseAnswer 110 = .ok (.iload_n 2, 1) := by decide +kernel
theorem dX9_clauseAnswer_111 : decode cX9_clauseAnswer 111 = .ok (.invokevirtual 337, 3) := by decide +kernel
theorem dX9_clauseAnswer_114 : decode cX9_clauseAnswer 114 = .ok (.ireturn, 1) := by decide +kernel
theorem dX9_clauseAnswer_115 : decode cX9_clauseAnswer 115 = .ok (.iconst (-1), 1) := by decide +kernel
theorem dX9_clauseAnswer_116 : decode cX9_clauseAnswer 116 = .ok (.ireturn, 1) := by decide +kernel
theorem dX9_isAsSeen_0 : decode cX9_isAsSeen 0 = .ok (.iconst 0, 1) := by decide +kernel
theorem dX9_isAsSeen_1 : decode cX9_isAsSeen 1 = .ok (.istore_n 2, 1) := by decide +kernel
theorem dX9_isAsSeen_2 : decode cX9_isAsSeen 2 = .ok (.iload_n 2, 1) := by decide +kernel
theorem dX9_isAsSeen_3 : decode cX9_isAsSeen 3 = .ok (.aload_n 0, 1) := by decide +kernel
theorem dX9_isAsSeen_4 : decode cX9_isAsSeen 4 = .ok (.getfield 12, 3) := by decide +kernel
theorem dX9_isAsSeen_7 : decode cX9_isAsSeen 7 = .ok (.getfield 213, 3) := by decide +kernel
theorem dX9_isAsSeen_10 : decode cX9_isAsSeen 10 = .ok (.getfield 133, 3) := by decide +kernel
theorem dX9_isAsSeen_13 : decode cX9_isAsSeen 13 = .ok (.if_icmp .ge 55, 3) := by decide +kernel
theorem dX9_isAsSeen_16 : decode cX9_isAsSeen 16 = .ok (.aload_n 1, 1) := by decide +kernel
theorem dX9_isAsSeen_17 : decode cX9_isAsSeen 17 = .ok (.aload_n 0, 1) := by decide +kernel
theorem dX9_isAsSeen_18 : decode cX9_isAsSeen 18 = .ok (.getfield 12, 3) := by decide +kernel
theorem dX9_isAsSeen_21 : decode cX9_isAsSeen 21 = .ok (.getfield 213, 3) := by decide +kernel
theorem dX9_isAsSeen_24 : decode cX9_isAsSeen 24 = .ok (.iload_n 2, 1) := by decide +kernel
theorem dX9_isAsSeen_25 : decode cX9_isAsSeen 25 = .ok (.invokevirtual 259, 3) := by decide +kernel
theorem dX9_isAsSeen_28 : decode cX9_isAsSeen 28 = .ok (.i2l, 1) := by decide +kernel
theorem dX9_isAsSeen_29 : decode cX9_isAsSeen 29 = .ok (.aload_n 0, 1) := by decide +kernel
theorem dX9_isAsSeen_30 : decode cX9_isAsSeen 30 = .ok (.getfield 12, 3) := by decide +kernel
theorem dX9_isAsSeen_33 : decode cX9_isAsSeen 33 = .ok (.getfield 213, 3) := by decide +kernel
theorem dX9_isAsSeen_36 : decode cX9_isAsSeen 36 = .ok (.iload_n 2, 1) := by decide +kernel
theorem dX9_isAsSeen_37 : decode cX9_isAsSeen 37 = .ok (.invokevirtual 262, 3) := by decide +kernel
theorem dX9_isAsSeen_40 : decode cX9_isAsSeen 40 = .ok (.i2l, 1) := by decide +kernel
theorem dX9_isAsSeen_41 : decode cX9_isAsSeen 41 = .ok (.invokevirtual 165, 3) := by decide +kernel
theorem dX9_isAsSeen_44 : decode cX9_isAsSeen 44 = .ok (.aload_n 0, 1) := by decide +kernel
theorem dX9_isAsSeen_45 : decode cX9_isAsSeen 45 = .ok (.getfield 12, 3) := by decide +kernel
theorem dX9_isAsSeen_48 : decode cX9_isAsSeen 48 = .ok (.getfield 213, 3) := by decide +kernel
theorem dX9_isAsSeen_51 : decode cX9_isAsSeen 51 = .ok (.iload_n 2, 1) := by decide +kernel
theorem dX9_isAsSeen_52 : decode cX9_isAsSeen 52 = .ok (.invokevirtual 323, 3) := by decide +kernel
theorem dX9_isAsSeen_55 : decode cX9_isAsSeen 55 = .ok (.i2l, 1) := by decide +kernel
theorem dX9_isAsSeen_56 : decode cX9_isAsSeen 56 = .ok (.lcmp, 1) := by decide +kernel
theorem dX9_isAsSeen_57 : decode cX9_isAsSeen 57 = .ok (.ifCond .eq 5, 3) := by decide +kernel
theorem dX9_isAsSeen_60 : decode cX9_isAsSeen 60 = .ok (.iconst 0, 1) := by decide +kernel
theorem dX9_isAsSeen_61 : decode cX9_isAsSeen 61 = .ok (.ireturn, 1) := by decide +kernel
theorem dX9_isAsSeen_62 : decode cX9_isAsSeen 62 = .ok (.iinc 2 1, 3) := by decide +kernel
theorem dX9_isAsSeen_65 : decode cX9_isAsSeen 65 = .ok (.goto (-63), 3) := by decide +kernel
theorem dX9_isAsSeen_68 : decode cX9_isAsSeen 68 = .ok (.iconst 1, 1) := by decide +kernel
theorem dX9_isAsSeen_69 : decode cX9_isAsSeen 69 = .ok (.ireturn, 1) := by decide +kernel
theorem dX9_tryEvents_0 : decode cX9_tryEvents 0 = .ok (.aload_n 0, 1) := by decide +kernel
theorem dX9_tryEvents_1 : decode cX9_tryEvents 1 = .ok (.getfield 28, 3) := by decide +kernel
theorem dX9_tryEvents_4 : decode cX9_tryEvents 4 = .ok (.aload_n 0, 1) := by decide +kernel
theorem dX9_tryEvents_5 : decode cX9_tryEvents 5 = .ok (.getfield 12, 3) := by decide +kernel
theorem dX9_tryEvents_8 : decode cX9_tryEvents 8 = .ok (.getfield 71, 3) := by decide +kernel
theorem dX9_tryEvents_11 : decode cX9_tryEvents 11 = .ok (.invokevirtual 340, 3) := by decide +kernel
theorem dX9_tryEvents_14 : decode cX9_tryEvents 14 = .ok (.iconst 0, 1) := by decide +kernel
theorem dX9_tryEvents_15 : decode cX9_tryEvents 15 = .ok (.istore_n 1, 1) := by decide +kernel
theorem dX9_tryEvents_16 : decode cX9_tryEvents 16 = .ok (.iload_n 1, 1) := by decide +kernel
theorem dX9_tryEvents_17 : decode cX9_tryEvents 17 = .ok (.aload_n 0, 1) := by decide +kernel
theorem dX9_tryEvents_18 : decode cX9_tryEvents 18 = .ok (.getfield 12, 3) := by decide +kernel
theorem dX9_tryEvents_21 : decode cX9_tryEvents 21 = .ok (.getfield 244, 3) := by decide +kernel
theorem dX9_tryEvents_24 : decode cX9_tryEvents 24 = .ok (.getfield 133, 3) := by decide +kernel
theorem dX9_tryEvents_27 : decode cX9_tryEvents 27 = .ok (.if_icmp .ge 96, 3) := by decide +kernel
theorem dX9_tryEvents_30 : decode cX9_tryEvents 30 = .ok (.aload_n 0, 1) := by decide +kernel
theorem dX9_tryEvents_31 : decode cX9_tryEvents 31 = .ok (.getfield 12, 3) := by decide +kernel
theorem dX9_tryEvents_34 : decode cX9_tryEvents 34 = .ok (.getfield 244, 3) := by decide +kernel
theorem dX9_tryEvents_37 : decode cX9_tryEvents 37 = .ok (.iload_n 1, 1) := by decide +kernel
theorem dX9_tryEvents_38 : decode cX9_tryEvents 38 = .ok (.invokevirtual 262, 3) := by decide +kernel
theorem dX9_tryEvents_41 : decode cX9_tryEvents 41 = .ok (.istore_n 2, 1) := by decide +kernel
theorem dX9_tryEvents_42 : decode cX9_tryEvents 42 = .ok (.aload_n 0, 1) := by decide +kernel
theorem dX9_tryEvents_43 : decode cX9_tryEvents 43 = .ok (.getfield 12, 3) := by decide +kernel
theorem dX9_tryEvents_46 : decode cX9_tryEvents 46 = .ok (.getfield 244, 3) := by decide +kernel
theorem dX9_tryEvents_49 : decode cX9_tryEvents 49 = .ok (.iload_n 1, 1) := by decide +kernel
theorem dX9_tryEvents_50 : decode cX9_tryEvents 50 = .ok (.invokevirtual 259, 3) := by decide +kernel
theorem dX9_tryEvents_53 : decode cX9_tryEvents 53 = .ok (.lookupswitch 56 #[(0, 27), (1, 41)], 27) := by decide +kernel
theorem dX9_tryEvents_80 : decode cX9_tryEvents 80 = .ok (.aload_n 0, 1) := by decide +kernel
theorem dX9_tryEvents_81 : decode cX9_tryEvents 81 = .ok (.getfield 28, 3) := by decide +kernel
theorem dX9_tryEvents_84 : decode cX9_tryEvents 84 = .ok (.getfield 74, 3) := by decide +kernel
theorem dX9_tryEvents_87 : decode cX9_tryEvents 87 = .ok (.iload_n 2, 1) := by decide +kernel
theorem dX9_tryEvents_88 : decode cX9_tryEvents 88 = .ok (.invokevirtual 342, 3) := by decide +kernel
theorem dX9_tryEvents_91 : decode cX9_tryEvents 91 = .ok (.goto 26, 3) := by decide +kernel
theorem dX9_tryEvents_94 : decode cX9_tryEvents 94 = .ok (.aload_n 0, 1) := by decide +kernel
theorem dX9_tryEvents_95 : decode cX9_tryEvents 95 = .ok (.getfield 28, 3) := by decide +kernel
theorem dX9_tryEvents_98 : decode cX9_tryEvents 98 = .ok (.getfield 74, 3) := by decide +kernel
theorem dX9_tryEvents_101 : decode cX9_tryEvents 101 = .ok (.iload_n 2, 1) := by decide +kernel
theorem dX9_tryEvents_102 : decode cX9_tryEvents 102 = .ok (.invokevirtual 109, 3) := by decide +kernel
theorem dX9_tryEvents_105 : decode cX9_tryEvents 105 = .ok (.pop, 1) := by decide +kernel
theorem dX9_tryEvents_106 : decode cX9_tryEvents 106 = .ok (.goto 11, 3) := by decide +kernel
theorem dX9_tryEvents_109 : decode cX9_tryEvents 109 = .ok (.aload_n 0, 1) := by decide +kernel
theorem dX9_tryEvents_110 : decode cX9_tryEvents 110 = .ok (.getfield 28, 3) := by decide +kernel
theorem dX9_tryEvents_113 : decode cX9_tryEvents 113 = .ok (.iload_n 2, 1) := by decide +kernel
theorem dX9_tryEvents_114 : decode cX9_tryEvents 114 = .ok (.invokevirtual 345, 3) := by decide +kernel
theorem dX9_tryEvents_117 : decode cX9_tryEvents 117 = .ok (.iinc 1 1, 3) := by decide +kernel
theorem dX9_tryEvents_120 : decode cX9_tryEvents 120 = .ok (.goto (-104), 3) := by decide +kernel
theorem dX9_tryEvents_123 : decode cX9_tryEvents 123 = .ok (.return_, 1) := by decide +kernel
theorem dX9_tapeAt_0 : decode cX9_tapeAt 0 = .ok (.iload_n 1, 1) := by decide +kernel
theorem dX9_tapeAt_1 : decode cX9_tapeAt 1 = .ok (.ifCond .lt 21, 3) := by decide +kernel
theorem dX9_tapeAt_4 : decode cX9_tapeAt 4 = .ok (.iload_n 1, 1) := by decide +kernel
theorem dX9_tapeAt_5 : decode cX9_tapeAt 5 = .ok (.aload_n 0, 1) := by decide +kernel
theorem dX9_tapeAt_6 : decode cX9_tapeAt 6 = .ok (.getfield 62, 3) := by decide +kernel
theorem dX9_tapeAt_9 : decode cX9_tapeAt 9 = .ok (.arraylength, 1) := by decide +kernel
theorem dX9_tapeAt_10 : decode cX9_tapeAt 10 = .ok (.if_icmp .ge 12, 3) := by decide +kernel
theorem dX9_tapeAt_13 : decode cX9_tapeAt 13 = .ok (.aload_n 0, 1) := by decide +kernel
theorem dX9_tapeAt_14 : decode cX9_tapeAt 14 = .ok (.getfield 62, 3) := by decide +kernel
theorem dX9_tapeAt_17 : decode cX9_tapeAt 17 = .ok (.iload_n 1, 1) := by decide +kernel
theorem dX9_tapeAt_18 : decode cX9_tapeAt 18 = .ok (.aaload, 1) := by decide +kernel
theorem dX9_tapeAt_19 : decode cX9_tapeAt 19 = .ok (.goto 4, 3) := by decide +kernel
theorem dX9_tapeAt_22 : decode cX9_tapeAt 22 = .ok (.aconst_null, 1) := by decide +kernel
theorem dX9_tapeAt_23 : decode cX9_tapeAt 23 = .ok (.areturn, 1) := by decide +kernel
theorem dX10_init_0 : decode cX10_init 0 = .ok (.aload_n 0, 1) := by decide +kernel
theorem dX10_init_1 : decode cX10_init 1 = .ok (.invokespecial 3, 3) := by decide +kernel
theorem dX10_init_4 : decode cX10_init 4 = .ok (.aload_n 0, 1) := by decide +kernel
theorem dX10_init_5 : decode cX10_init 5 = .ok (.iconst 3, 1) := by decide +kernel
theorem dX10_init_6 : decode cX10_init 6 = .ok (.putfield 9, 3) := by decide +kernel
theorem dX10_init_9 : decode cX10_init 9 = .ok (.aload_n 0, 1) := by decide +kernel
theorem dX10_init_10 : decode cX10_init 10 = .ok (.iconst 5, 1) := by decide +kernel
theorem dX10_init_11 : decode cX10_init 11 = .ok (.newarray .long, 2) := by decide +kernel
theorem dX10_init_13 : decode cX10_init 13 = .ok (.putfield 15, 3) := by decide +kernel
theorem dX10_init_16 : decode cX10_init 16 = .ok (.aload_n 0, 1) := by decide +kernel
theorem dX10_init_17 : decode cX10_init 17 = .ok (.iconst 1, 1) := by decide +kernel
theorem dX10_init_18 : decode cX10_init 18 = .ok (.putfield 19, 3) := by decide +kernel
theorem dX10_init_21 : decode cX10_init 21 = .ok (.aload_n 0, 1) := by decide +kernel
theorem dX10_init_22 : decode cX10_init 22 = .ok (.bipush 10, 2) := by decide +kernel
theorem dX10_init_24 : decode cX10_init 24 = .ok (.putfield 22, 3) := by decide +kernel
theorem dX10_init_27 : decode cX10_init 27 = .ok (.aload_n 0, 1) := by decide +kernel
theorem dX10_init_28 : decode cX10_init 28 = .ok (.bipush 12, 2) := by decide +kernel
theorem dX10_init_30 : decode cX10_init 30 = .ok (.newarray .int, 2) := by decide +kernel
theorem dX10_init_32 : decode cX10_init 32 = .ok (.putfield 25, 3) := by decide +kernel
theorem dX10_init_35 : decode cX10_init 35 = .ok (.aload_n 0, 1) := by decide +kernel
theorem dX10_init_36 : decode cX10_init 36 = .ok (.bipush 16, 2) := by decide +kernel
theorem dX10_init_38 : decode cX10_init 38 = .ok (.newarray .int, 2) := by decide +kernel
theorem dX10_init_40 : decode cX10_init 40 = .ok (.putfield 29, 3) := by decide +kernel
theorem dX10_init_43 : decode cX10_init 43 = .ok (.aload_n 0, 1) := by decide +kernel
theorem dX10_init_44 : decode cX10_init 44 = .ok (.bipush 16, 2) := by decide +kernel
theorem dX10_init_46 : decode cX10_init 46 = .ok (.newarray .int, 2) := by decide +kernel
theorem dX10_init_48 : decode cX10_init 48 = .ok (.putfield 32, 3) := by decide +kernel
theorem dX10_init_51 : decode cX10_init 51 = .ok (.aload_n 0, 1) := by decide +kernel
theorem dX10_init_52 : decode cX10_init 52 = .ok (.iconst 5, 1) := by decide +kernel
theorem dX10_init_53 : decode cX10_init 53 = .ok (.newarray .long, 2) := by decide +kernel
theorem dX10_init_55 : decode cX10_init 55 = .ok (.putfield 35, 3) := by decide +kernel
theorem dX10_init_58 : decode cX10_init 58 = .ok (.aload_n 0, 1) := by decide +kernel
theorem dX10_init_59 : decode cX10_init 59 = .ok (.iconst 5, 1) := by decide +kernel
theorem dX10_init_60 : decode cX10_init 60 = .ok (.newarray .long, 2) := by decide +kernel
theorem dX10_init_62 : decode cX10_init 62 = .ok (.putfield 38, 3) := by decide +kernel
theorem dX10_init_65 : decode cX10_init 65 = .ok (.aload_n 0, 1) := by decide +kernel
theorem dX10_init_66 : decode cX10_init 66 = .ok (.sipush 13122, 3) := by decide +kernel
theorem dX10_init_69 : decode cX10_init 69 = .ok (.newarray .int, 2) := by decide +kernel
theorem dX10_init_71 : decode cX10_init 71 = .ok (.putfield 41, 3) := by decide +kernel
theorem dX10_init_74 : decode cX10_init 74 = .ok (.aload_n 0, 1) := by decide +kernel
theorem dX10_init_75 : decode cX10_init 75 = .ok (.sipush 2500, 3) := by decide +kernel
theorem dX10_init_78 : decode cX10_init 78 = .ok (.newarray .int, 2) := by decide +kernel
theorem dX10_init_80 : decode cX10_init 80 = .ok (.putfield 44, 3) := by decide +kernel
theorem dX10_init_83 : decode cX10_init 83 = .ok (.aload_n 0, 1) := by decide +kernel
theorem dX10_init_84 : decode cX10_init 84 = .ok (.sipush 6561, 3) := by decide +kernel
theorem dX10_init_87 : decode cX10_init 87 = .ok (.newarray .int, 2) := by decide +kernel
theorem dX10_init_89 : decode cX10_init 89 = .ok (.putfield 47, 3) := by decide +kernel
theorem dX10_init_92 : decode cX10_init 92 = .ok (.aload_n 0, 1) := by decide +kernel
theorem dX10_init_93 : decode cX10_init 93 = .ok (.sipush 6561, 3) := by decide +kernel
theorem dX10_init_96 : decode cX10_init 96 = .ok (.newarray .int, 2) := by decide +kernel
theorem dX10_init_98 : decode cX10_init 98 = .ok (.putfield 50, 3) := by decide +kernel
theorem dX10_init_101 : decode cX10_init 101 = .ok (.aload_n 0, 1) := by decide +kernel
theorem dX10_init_102 : decode cX10_init 102 = .ok (.sipush 6561, 3) := by decide +kernel
theorem dX10_init_105 : decode cX10_init 105 = .ok (.newarray .int, 2) := by decide +kernel
theorem dX10_init_107 : decode cX10_init 107 = .ok (.putfield 53, 3) := by decide +kernel
theorem dX10_init_110 : decode cX10_init 110 = .ok (.aload_n 0, 1) := by decide +kernel
theorem dX10_init_111 : decode cX10_init 111 = .ok (.bipush 6, 2) := by decide +kernel
theorem dX10_init_113 : decode cX10_init 113 = .ok (.newarray .int, 2) := by decide +kernel
theorem dX10_init_115 : decode cX10_init 115 = .ok (.dup, 1) := by decide +kernel
theorem dX10_init_116 : decode cX10_init 116 = .ok (.iconst 0, 1) := by decide +kernel
theorem dX10_init_117 : decode cX10_init 117 = .ok (.iconst 2, 1) := by decide +kernel
theorem dX10_init_118 : decode cX10_init 118 = .ok (.iastore, 1) := by decide +kernel
theorem dX10_init_119 : decode cX10_init 119 = .ok (.dup, 1) := by decide +kernel
theorem dX10_init_120 : decode cX10_init 120 = .ok (.iconst 1, 1) := by decide +kernel
theorem dX10_init_121 : decode cX10_init 121 = .ok (.iconst 3, 1) := by decide +kernel
theorem dX10_init_122 : decode cX10_init 122 = .ok (.iastore, 1) := by decide +kernel
theorem dX10_init_123 : decode cX10_init 123 = .ok (.dup, 1) := by decide +kernel
theorem dX10_init_124 : decode cX10_init 124 = .ok (.iconst 2, 1) := by decide +kernel
theorem dX10_init_125 : decode cX10_init 125 = .ok (.iconst 5, 1) := by decide +kernel
theorem dX10_init_126 : decode cX10_init 126 = .ok (.iastore, 1) := by decide +kernel
theorem dX10_init_127 : decode cX10_init 127 = .ok (.dup, 1) := by decide +kernel
theorem dX10_init_128 : decode cX10_init 128 = .ok (.iconst 3, 1) := by decide +kernel
theorem dX10_init_129 : decode cX10_init 129 = .ok (.bipush 7, 2) := by decide +kernel
theorem dX10_init_131 : decode cX10_init 131 = .ok (.iastore, 1) := by decide +kernel
theorem dX10_init_132 : decode cX10_init 132 = .ok (.dup, 1) := by decide +kernel
theorem dX10_init_133 : decode cX10_init 133 = .ok (.iconst 4, 1) := by decide +kernel
theorem dX10_init_134 : decode cX10_init 134 = .ok (.bipush 11, 2) := by decide +kernel
theorem dX10_init_136 : decode cX10_init 136 = .ok (.iastore, 1) := by decide +kernel
theorem dX10_init_137 : decode cX10_init 137 = .ok (.dup, 1) := by decide +kernel
theorem dX10_init_138 : decode cX10_init 138 = .ok (.iconst 5, 1) := by decide +kernel
theorem dX10_init_139 : decode cX10_init 139 = .ok (.bipush 13, 2) := by decide +kernel
theorem dX10_init_141 : decode cX10_init 141 = .ok (.iastore, 1) := by decide +kernel
theorem dX10_init_142 : decode cX10_init 142 = .ok (.putfield 56, 3) := by decide +kernel
theorem dX10_init_145 : decode cX10_init 145 = .ok (.aload_n 0, 1) := by decide +kernel
theorem dX10_init_146 : decode cX10_init 146 = .ok (.bipush 13, 2) := by decide +kernel
theorem dX10_init_148 : decode cX10_init 148 = .ok (.newarray .boolean, 2) := by decide +kernel
theorem dX10_init_150 : decode cX10_init 150 = .ok (.putfield 59, 3) := by decide +kernel
theorem dX10_init_153 : decode cX10_init 153 = .ok (.aload_n 0, 1) := by decide +kernel
theorem dX10_init_154 : decode cX10_init 154 = .ok (.iconst 5, 1) := by decide +kernel
theorem dX10_init_155 : decode cX10_init 155 = .ok (.newarray .long, 2) := by decide +kernel
theorem dX10_init_157 : decode cX10_init 157 = .ok (.putfield 63, 3) := by decide +kernel
theorem dX10_init_160 : decode cX10_init 160 = .ok (.aload_n 0, 1) := by decide +kernel
theorem dX10_init_161 : decode cX10_init 161 = .ok (.iconst 5, 1) := by decide +kernel
theorem dX10_init_162 : decode cX10_init 162 = .ok (.newarray .long, 2) := by decide +kernel
theorem dX10_init_164 : decode cX10_init 164 = .ok (.putfield 66, 3) := by decide +kernel
theorem dX10_init_167 : decode cX10_init 167 = .ok (.aload_n 0, 1) := by decide +kernel
theorem dX10_init_168 : decode cX10_init 168 = .ok (.bipush 8, 2) := by decide +kernel
theorem dX10_init_170 : decode cX10_init 170 = .ok (.newarray .int, 2) := by decide +kernel
theorem dX10_init_172 : decode cX10_init 172 = .ok (.putfield 69, 3) := by decide +kernel
theorem dX10_init_175 : decode cX10_init 175 = .ok (.aload_n 0, 1) := by decide +kernel
theorem dX10_init_176 : decode cX10_init 176 = .ok (.bipush 100, 2) := by decide +kernel
theorem dX10_init_178 : decode cX10_init 178 = .ok (.newarray .int, 2) := by decide +kernel
theorem dX10_init_180 : decode cX10_init 180 = .ok (.putfield 72, 3) := by decide +kernel
theorem dX10_init_183 : decode cX10_init 183 = .ok (.aload_n 0, 1) := by decide +kernel
theorem dX10_init_184 : decode cX10_init 184 = .ok (.bipush 36, 2) := by decide +kernel
theorem dX10_init_186 : decode cX10_init 186 = .ok (.newarray .int, 2) := by decide +kernel
theorem dX10_init_188 : decode cX10_init 188 = .ok (.putfield 75, 3) := by decide +kernel
theorem dX10_init_191 : decode cX10_init 191 = .ok (.aload_n 0, 1) := by decide +kernel
theorem dX10_init_192 : decode cX10_init 192 = .ok (.iconst 5, 1) := by decide +kernel
theorem dX10_init_193 : decode cX10_init 193 = .ok (.newarray .long, 2) := by decide +kernel
theorem dX10_init_195 : decode cX10_init 195 = .ok (.putfield 78, 3) := by decide +kernel
theorem dX10_init_198 : decode cX10_init 198 = .ok (.aload_n 0, 1) := by decide +kernel
theorem dX10_init_199 : decode cX10_init 199 = .ok (.bipush 6, 2) := by decide +kernel
theorem dX10_init_201 : decode cX10_init 201 = .ok (.newarray .int, 2) := by decide +kernel
theorem dX10_init_203 : decode cX10_init 203 = .ok (.dup, 1) := by decide +kernel
theorem dX10_init_204 : decode cX10_init 204 = .ok (.iconst 0, 1) := by decide +kernel
theorem dX10_init_205 : decode cX10_init 205 = .ok (.iconst (-1), 1) := by decide +kernel
theorem dX10_init_206 : decode cX10_init 206 = .ok (.iastore, 1) := by decide +kernel
theorem dX10_init_207 : decode cX10_init 207 = .ok (.dup, 1) := by decide +kernel
theorem dX10_init_208 : decode cX10_init 208 = .ok (.iconst 1, 1) := by decide +kernel
theorem dX10_init_209 : decode cX10_init 209 = .ok (.iconst (-1), 1) := by decide +kernel
theorem dX10_init_210 : decode cX10_init 210 = .ok (.iastore, 1) := by decide +kernel
theorem dX10_init_211 : decode cX10_init 211 = .ok (.dup, 1) := by decide +kernel
theorem dX10_init_212 : decode cX10_init 212 = .ok (.iconst 2, 1) := by decide +kernel
theorem dX10_init_213 : decode cX10_init 213 = .ok (.iconst (-1), 1) := by decide +kernel
theorem dX10_init_214 : decode cX10_init 214 = .ok (.iastore, 1) := by decide +kernel
theorem dX10_init_215 : decode cX10_init 215 = .ok (.dup, 1) := by decide +kernel
theorem dX10_init_216 : decode cX10_init 216 = .ok (.iconst 3, 1) := by decide +kernel
theorem dX10_init_217 : decode cX10_init 217 = .ok (.iconst (-1), 1) := by decide +kernel
theorem dX10_init_218 : decode cX10_init 218 = .ok (.iastore, 1) := by decide +kernel
theorem dX10_init_219 : decode cX10_init 219 = .ok (.dup, 1) := by decide +kernel
theorem dX10_init_220 : decode cX10_init 220 = .ok (.iconst 4, 1) := by decide +kernel
theorem dX10_init_221 : decode cX10_init 221 = .ok (.iconst (-1), 1) := by decide +kernel
theorem dX10_init_222 : decode cX10_init 222 = .ok (.iastore, 1) := by decide +kernel
theorem dX10_init_223 : decode cX10_init 223 = .ok (.dup, 1) := by decide +kernel
theorem dX10_init_224 : decode cX10_init 224 = .ok (.iconst 5, 1) := by decide +kernel
theorem dX10_init_225 : decode cX10_init 225 = .ok (.iconst (-1), 1) := by decide +kernel
theorem dX10_init_226 : decode cX10_init 226 = .ok (.iastore, 1) := by decide +kernel
theorem dX10_init_227 : decode cX10_init 227 = .ok (.putfield 81, 3) := by decide +kernel
theorem dX10_init_230 : decode cX10_init 230 = .ok (.aload_n 0, 1) := by decide +kernel
theorem dX10_init_231 : decode cX10_init 231 = .ok (.bipush 6, 2) := by decide +kernel
theorem dX10_init_233 : decode cX10_init 233 = .ok (.newarray .int, 2) := by decide +kernel
theorem dX10_init_235 : decode cX10_init 235 = .ok (.putfield 84, 3) := by decide +kernel
theorem dX10_init_238 : decode cX10_init 238 = .ok (.aload_n 0, 1) := by decide +kernel
theorem dX10_init_239 : decode cX10_init 239 = .ok (.sipush 360, 3) := by decide +kernel
theorem dX10_init_242 : decode cX10_init 242 = .ok (.newarray .long, 2) := by decide +kernel
theorem dX10_init_244 : decode cX10_init 244 = .ok (.putfield 87, 3) := by decide +kernel
theorem dX10_init_247 : decode cX10_init 247 = .ok (.aload_n 0, 1) := by decide +kernel
theorem dX10_init_248 : decode cX10_init 248 = .ok (.iconst 5, 1) := by decide +kernel
theorem dX10_init_249 : decode cX10_init 249 = .ok (.newarray .long, 2) := by decide +kernel
theorem dX10_init_251 : decode cX10_init 251 = .ok (.putfield 90, 3) := by decide +kernel
theorem dX10_init_254 : decode cX10_init 254 = .ok (.aload_n 0, 1) := by decide +kernel
theorem dX10_init_255 : decode cX10_init 255 = .ok (.bipush 50, 2) := by decide +kernel
theorem dX10_init_257 : decode cX10_init 257 = .ok (.newarray .int, 2) := by decide +kernel
theorem dX10_init_259 : decode cX10_init 259 = .ok (.putfield 93, 3) := by decide +kernel
theorem dX10_init_262 : decode cX10_init 262 = .ok (.return_, 1) := by decide +kernel
theorem dX10_in_0 : decode cX10_in 0 = .ok (.lload_n 0, 1) := by decide +kernel
theorem dX10_in_1 : decode cX10_in 1 = .ok (.lload_n 2, 1) := by decide +kernel
theorem dX10_in_2 : decode cX10_in 2 = .ok (.lcmp, 1) := by decide +kernel
theorem dX10_in_3 : decode cX10_in 3 = .ok (.ifCond .lt 14, 3) := by decide +kernel
theorem dX10_in_6 : decode cX10_in 6 = .ok (.lload_n 0, 1) := by decide +kernel
theorem dX10_in_7 : decode cX10_in 7 = .ok (.lload 4, 2) := by decide +kernel
theorem dX10_in_9 : decode cX10_in 9 = .ok (.lcmp, 1) := by decide +kernel
theorem dX10_in_10 : decode cX10_in 10 = .ok (.ifCond .gt 7, 3) := by decide +kernel
theorem dX10_in_13 : decode cX10_in 13 = .ok (.iconst 1, 1) := by decide +kernel
theorem dX10_in_14 : decode cX10_in 14 = .ok (.goto 4, 3) := by decide +kernel
theorem dX10_in_17 : decode cX10_in 17 = .ok (.iconst 0, 1) := by decide +kernel
theorem dX10_in_18 : decode cX10_in 18 = .ok (.ireturn, 1) := by decide +kernel
theorem dX10_isNumber_0 : decode cX10_isNumber 0 = .ok (.iload_n 1, 1) := by decide +kernel
theorem dX10_isNumber_1 : decode cX10_isNumber 1 = .ok (.i2l, 1) := by decide +kernel
theorem dX10_isNumber_2 : decode cX10_isNumber 2 = .ok (.lconst 0, 1) := by decide +kernel
theorem dX10_isNumber_3 : decode cX10_isNumber 3 = .ok (.aload_n 0, 1) := by decide +kernel
theorem dX10_isNumber_4 : decode cX10_isNumber 4 = .ok (.getfield 9, 3) := by decide +kernel
theorem dX10_isNumber_7 : decode cX10_isNumber 7 = .ok (.i2l, 1) := by decide +kernel
theorem dX10_isNumber_8 : decode cX10_isNumber 8 = .ok (.invokestatic 96, 3) := by decide +kernel
theorem dX10_isNumber_11 : decode cX10_isNumber 11 = .ok (.ireturn, 1) := by decide +kernel
theorem dX10_degree_0 : decode cX10_degree 0 = .ok (.iload_n 1, 1) := by decide +kernel
theorem dX10_degree_1 : decode cX10_degree 1 = .ok (.i2l, 1) := by decide +kernel
theorem dX10_degree_2 : decode cX10_degree 2 = .ok (.ldc2_w 100, 3) := by decide +kernel
theorem dX10_degree_5 : decode cX10_degree 5 = .ok (.ldc2_w 102, 3) := by decide +kernel
theorem dX10_degree_8 : decode cX10_degree 8 = .ok (.invokestatic 96, 3) := by decide +kernel
theorem dX10_degree_11 : decode cX10_degree 11 = .ok (.ifCond .ne 6, 3) := by decide +kernel
theorem dX10_degree_14 : decode cX10_degree 14 = .ok (.bipush (-2), 2) := by decide +kernel
theorem dX10_degree_16 : decode cX10_degree 16 = .ok (.ireturn, 1) := by decide +kernel
theorem dX10_degree_17 : decode cX10_degree 17 = .ok (.aload_n 0, 1) := by decide +kernel
theorem dX10_degree_18 : decode cX10_degree 18 = .ok (.getfield 9, 3) := by decide +kernel
theorem dX10_degree_21 : decode cX10_degree 21 = .ok (.istore_n 2, 1) := by decide +kernel
theorem dX10_degree_22 : decode cX10_degree 22 = .ok (.aload_n 0, 1) := by decide +kernel
theorem dX10_degree_23 : decode cX10_degree 23 = .ok (.iload_n 1, 1) := by decide +kernel
theorem dX10_degree_24 : decode cX10_degree 24 = .ok (.putfield 9, 3) := by decide +kernel
theorem dX10_degree_27 : decode cX10_degree 27 = .ok (.iconst 0, 1) := by decide +kernel
theorem dX10_degree_28 : decode cX10_degree 28 = .ok (.istore_n 3, 1) := by decide +kernel
theorem dX10_degree_29 : decode cX10_degree 29 = .ok (.iload_n 3, 1) := by decide +kernel
theorem dX10_degree_30 : decode cX10_degree 30 = .ok (.iconst 5, 1) := by decide +kernel
theorem dX10_degree_31 : decode cX10_degree 31 = .ok (.if_icmp .ge 16, 3) := by decide +kernel
theorem dX10_degree_34 : decode cX10_degree 34 = .ok (.aload_n 0, 1) := by decide +kernel
theorem dX10_degree_35 : decode cX10_degree 35 = .ok (.getfield 15, 3) := by decide +kernel
theorem dX10_degree_38 : decode cX10_degree 38 = .ok (.iload_n 3, 1) := by decide +kernel
theorem dX10_degree_39 : decode cX10_degree 39 = .ok (.lconst 0, 1) := by decide +kernel
theorem dX10_degree_40 : decode cX10_degree 40 = .ok (.lastore, 1) := by decide +kernel
theorem dX10_degree_41 : decode cX10_degree 41 = .ok (.iinc 3 1, 3) := by decide +kernel
theorem dX10_degree_44 : decode cX10_degree 44 = .ok (.goto (-15), 3) := by decide +kernel
theorem dX10_degree_47 : decode cX10_degree 47 = .ok (.iload_n 2, 1) := by decide +kernel
theorem dX10_degree_48 : decode cX10_degree 48 = .ok (.ireturn, 1) := by decide +kernel
theorem dX10_number_0 : decode cX10_number 0 = .ok (.aload_n 0, 1) := by decide +kernel
theorem dX10_number_1 : decode cX10_number 1 = .ok (.iload_n 1, 1) := by decide +kernel
theorem dX10_number_2 : decode cX10_number 2 = .ok (.invokevirtual 104, 3) := by decide +kernel
theorem dX10_number_5 : decode cX10_number 5 = .ok (.ifCond .ne 5, 3) := by decide +kernel
theorem dX10_number_8 : decode cX10_number 8 = .ok (.iconst (-1), 1) := by decide +kernel
theorem dX10_number_9 : decode cX10_number 9 = .ok (.ireturn, 1) := by decide +kernel
theorem dX10_number_10 : decode cX10_number 10 = .ok (.iload_n 2, 1) := by decide +kernel
theorem dX10_number_11 : decode cX10_number 11 = .ok (.i2l, 1) := by decide +kernel
theorem dX10_number_12 : decode cX10_number 12 = .ok (.ldc2_w 108, 3) := by decide +kernel
theorem dX10_number_15 : decode cX10_number 15 = .ok (.ldc2_w 110, 3) := by decide +kernel
theorem dX10_number_18 : decode cX10_number 18 = .ok (.invokestatic 96, 3) := by decide +kernel
theorem dX10_number_21 : decode cX10_number 21 = .ok (.ifCond .ne 6, 3) := by decide +kernel
theorem dX10_number_24 : decode cX10_number 24 = .ok (.bipush (-2), 2) := by decide +kernel
theorem dX10_number_26 : decode cX10_number 26 = .ok (.ireturn, 1) := by decide +kernel
theorem dX10_number_27 : decode cX10_number 27 = .ok (.aload_n 0, 1) := by decide +kernel
theorem dX10_number_28 : decode cX10_number 28 = .ok (.getfield 15, 3) := by decide +kernel
theorem dX10_number_31 : decode cX10_number 31 = .ok (.iload_n 1, 1) := by decide +kernel
theorem dX10_number_32 : decode cX10_number 32 = .ok (.laload, 1) := by decide +kernel
theorem dX10_number_33 : decode cX10_number 33 = .ok (.l2i, 1) := by decide +kernel
theorem dX10_number_34 : decode cX10_number 34 = .ok (.istore_n 3, 1) := by decide +kernel
theorem dX10_number_35 : decode cX10_number 35 = .ok (.aload_n 0, 1) := by decide +kernel
theorem dX10_number_36 : decode cX10_number 36 = .ok (.getfield 15, 3) := by decide +kernel
theorem dX10_number_39 : decode cX10_number 39 = .ok (.iload_n 1, 1) := by decide +kernel
theorem dX10_number_40 : decode cX10_number 40 = .ok (.iload_n 2, 1) := by decide +kernel
theorem dX10_number_41 : decode cX10_number 41 = .ok (.i2l, 1) := by decide +kernel
theorem dX10_number_42 : decode cX10_number 42 = .ok (.lastore, 1) := by decide +kernel
theorem dX10_number_43 : decode cX10_number 43 = .ok (.iload_n 3, 1) := by decide +kernel
theorem dX10_number_44 : decode cX10_number 44 = .ok (.bipush 100, 2) := by decide +kernel
theorem dX10_number_46 : decode cX10_number 46 = .ok (.iadd, 1) := by decide +kernel
theorem dX10_number_47 : decode cX10_number 47 = .ok (.ireturn, 1) := by decide +kernel
theorem dX10_equal_0 : decode cX10_equal 0 = .ok (.iload_n 1, 1) := by decide +kernel
theorem dX10_equal_1 : decode cX10_equal 1 = .ok (.i2l, 1) := by decide +kernel
theorem dX10_equal_2 : decode cX10_equal 2 = .ok (.ldc2_w 112, 3) := by decide +kernel
theorem dX10_equal_5 : decode cX10_equal 5 = .ok (.ldc2_w 114, 3) := by decide +kernel
theorem dX10_equal_8 : decode cX10_equal 8 = .ok (.invokestatic 96, 3) := by decide +kernel
theorem dX10_equal_11 : decode cX10_equal 11 = .ok (.ifCond .ne 6, 3) := by decide +kernel
theorem dX10_equal_14 : decode cX10_equal 14 = .ok (.bipush (-2), 2) := by decide +kernel
theorem dX10_equal_16 : decode cX10_equal 16 = .ok (.ireturn, 1) := by decide +kernel
theorem dX10_equal_17 : decode cX10_equal 17 = .ok (.aload_n 0, 1) := by decide +kernel
theorem dX10_equal_18 : decode cX10_equal 18 = .ok (.getfield 19, 3) := by decide +kernel
theorem dX10_equal_21 : decode cX10_equal 21 = .ok (.istore_n 2, 1) := by decide +kernel
theorem dX10_equal_22 : decode cX10_equal 22 = .ok (.aload_n 0, 1) := by decide +kernel
theorem dX10_equal_23 : decode cX10_equal 23 = .ok (.iload_n 1, 1) := by decide +kernel
theorem dX10_equal_24 : decode cX10_equal 24 = .ok (.putfield 19, 3) := by decide +kernel
theorem dX10_equal_27 : decode cX10_equal 27 = .ok (.iload_n 2, 1) := by decide +kernel
theorem dX10_equal_28 : decode cX10_equal 28 = .ok (.sipush 10000, 3) := by decide +kernel
theorem dX10_equal_31 : decode cX10_equal 31 = .ok (.iadd, 1) := by decide +kernel
theorem dX10_equal_32 : decode cX10_equal 32 = .ok (.ireturn, 1) := by decide +kernel
theorem dX10_window_0 : decode cX10_window 0 = .ok (.iload_n 1, 1) := by decide +kernel
theorem dX10_window_1 : decode cX10_window 1 = .ok (.i2l, 1) := by decide +kernel
theorem dX10_window_2 : decode cX10_window 2 = .ok (.lconst 1, 1) := by decide +kernel
theorem dX10_window_3 : decode cX10_window 3 = .ok (.ldc2_w 116, 3) := by decide +kernel
theorem dX10_window_6 : decode cX10_window 6 = .ok (.invokestatic 96, 3) := by decide +kernel
theorem dX10_window_9 : decode cX10_window 9 = .ok (.ifCond .ne 6, 3) := by decide +kernel
theorem dX10_window_12 : decode cX10_window 12 = .ok (.bipush (-2), 2) := by decide +kernel
theorem dX10_window_14 : decode cX10_window 14 = .ok (.ireturn, 1) := by decide +kernel
theorem dX10_window_15 : decode cX10_window 15 = .ok (.aload_n 0, 1) := by decide +kernel
theorem dX10_window_16 : decode cX10_window 16 = .ok (.getfield 22, 3) := by decide +kernel
theorem dX10_window_19 : decode cX10_window 19 = .ok (.istore_n 2, 1) := by decide +kernel
theorem dX10_window_20 : decode cX10_window 20 = .ok (.aload_n 0, 1) := by decide +kernel
theorem dX10_window_21 : decode cX10_window 21 = .ok (.iload_n 1, 1) := by decide +kernel
theorem dX10_window_22 : decode cX10_window 22 = .ok (.putfield 22, 3) := by decide +kernel
theorem dX10_window_25 : decode cX10_window 25 = .ok (.iload_n 2, 1) := by decide +kernel
theorem dX10_window_26 : decode cX10_window 26 = .ok (.ireturn, 1) := by decide +kernel
theorem dX10_power_0 : decode cX10_power 0 = .ok (.lconst 1, 1) := by decide +kernel
theorem dX10_power_1 : decode cX10_power 1 = .ok (.lstore_n 3, 1) := by decide +kernel
theorem dX10_power_2 : decode cX10_power 2 = .ok (.iconst 0, 1) := by decide +kernel
theorem dX10_power_3 : decode cX10_power 3 = .ok (.istore 5, 2) := by decide +kernel
theorem dX10_power_5 : decode cX10_power 5 = .ok (.iload 5, 2) := by decide +kernel
theorem dX10_power_7 : decode cX10_power 7 = .ok (.iload_n 2, 1) := by decide +kernel
theorem dX10_power_8 : decode cX10_power 8 = .ok (.if_icmp .ge 13, 3) := by decide +kernel
theorem dX10_power_11 : decode cX10_power 11 = .ok (.lload_n 3, 1) := by decide +kernel
theorem dX10_power_12 : decode cX10_power 12 = .ok (.lload_n 0, 1) := by decide +kernel
theorem dX10_power_13 : decode cX10_power 13 = .ok (.lmul, 1) := by decide +kernel
theorem dX10_power_14 : decode cX10_power 14 = .ok (.lstore_n 3, 1) := by decide +kernel
theorem dX10_power_15 : decode cX10_power 15 = .ok (.iinc 5 1, 3) := by decide +kernel
theorem dX10_power_18 : decode cX10_power 18 = .ok (.goto (-13), 3) := by decide +kernel
theorem dX10_power_21 : decode cX10_power 21 = .ok (.lload_n 3, 1) := by decide +kernel
theorem dX10_power_22 : decode cX10_power 22 = .ok (.lreturn, 1) := by decide +kernel
theorem dX10_valueAt_0 : decode cX10_valueAt 0 = .ok (.lconst 0, 1) := by decide +kernel
theorem dX10_valueAt_1 : decode cX10_valueAt 1 = .ok (.lstore 5, 2) := by decide +kernel
theorem dX10_valueAt_3 : decode cX10_valueAt 3 = .ok (.iconst 0, 1) := by decide +kernel
theorem dX10_valueAt_4 : decode cX10_valueAt 4 = .ok (.istore 7, 2) := by decide +kernel
theorem dX10_valueAt_6 : decode cX10_valueAt 6 = .ok (.iload 7, 2) := by decide +kernel
theorem dX10_valueAt_8 : decode cX10_valueAt 8 = .ok (.aload_n 0, 1) := by decide +kernel
theorem dX10_valueAt_9 : decode cX10_valueAt 9 = .ok (.getfield 9, 3) := by decide +kernel
theorem dX10_valueAt_12 : decode cX10_valueAt 12 = .ok (.if_icmp .gt 40, 3) := by decide +kernel
theorem dX10_valueAt_15 : decode cX10_valueAt 15 = .ok (.lload 5, 2) := by decide +kernel
theorem dX10_valueAt_17 : decode cX10_valueAt 17 = .ok (.aload_n 0, 1) := by decide +kernel
theorem dX10_valueAt_18 : decode cX10_valueAt 18 = .ok (.getfield 15, 3) := by decide +kernel
theorem dX10_valueAt_21 : decode cX10_valueAt 21 = .ok (.iload 7, 2) := by decide +kernel
theorem dX10_valueAt_23 : decode cX10_valueAt 23 = .ok (.laload, 1) := by decide +kernel
theorem dX10_valueAt_24 : decode cX10_valueAt 24 = .ok (.lload_n 1, 1) := by decide +kernel
theorem dX10_valueAt_25 : decode cX10_valueAt 25 = .ok (.aload_n 0, 1) := by decide +kernel
theorem dX10_valueAt_26 : decode cX10_valueAt 26 = .ok (.getfield 9, 3) := by decide +kernel
theorem dX10_valueAt_29 : decode cX10_valueAt 29 = .ok (.iload 7, 2) := by decide +kernel
theorem dX10_valueAt_31 : decode cX10_valueAt 31 = .ok (.isub, 1) := by decide +kernel
theorem dX10_valueAt_32 : decode cX10_valueAt 32 = .ok (.invokestatic 118, 3) := by decide +kernel
theorem dX10_valueAt_35 : decode cX10_valueAt 35 = .ok (.lmul, 1) := by decide +kernel
theorem dX10_valueAt_36 : decode cX10_valueAt 36 = .ok (.lload_n 3, 1) := by decide +kernel
theorem dX10_valueAt_37 : decode cX10_valueAt 37 = .ok (.iload 7, 2) := by decide +kernel
theorem dX10_valueAt_39 : decode cX10_valueAt 39 = .ok (.invokestatic 118, 3) := by decide +kernel
theorem dX10_valueAt_42 : decode cX10_valueAt 42 = .ok (.lmul, 1) := by decide +kernel
theorem dX10_valueAt_43 : decode cX10_valueAt 43 = .ok (.ladd, 1) := by decide +kernel
theorem dX10_valueAt_44 : decode cX10_valueAt 44 = .ok (.lstore 5, 2) := by decide +kernel
theorem dX10_valueAt_46 : decode cX10_valueAt 46 = .ok (.iinc 7 1, 3) := by decide +kernel
theorem dX10_valueAt_49 : decode cX10_valueAt 49 = .ok (.goto (-43), 3) := by decide +kernel
theorem dX10_valueAt_52 : decode cX10_valueAt 52 = .ok (.lload 5, 2) := by decide +kernel
theorem dX10_valueAt_54 : decode cX10_valueAt 54 = .ok (.lreturn, 1) := by decide +kernel
