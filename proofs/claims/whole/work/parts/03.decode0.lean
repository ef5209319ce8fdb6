theorem dX8_prepare_0 : decode cX8_prepare 0 = .ok (.iconst 0, 1) := by decide +kernel
theorem dX8_prepare_1 : decode cX8_prepare 1 = .ok (.istore_n 3, 1) := by decide +kernel
theorem dX8_prepare_2 : decode cX8_prepare 2 = .ok (.iload_n 3, 1) := by decide +kernel
theorem dX8_prepare_3 : decode cX8_prepare 3 = .ok (.iconst 4, 1) := by decide +kernel
theorem dX8_prepare_4 : decode cX8_prepare 4 = .ok (.if_icmp .ge 48, 3) := by decide +kernel
theorem dX8_prepare_7 : decode cX8_prepare 7 = .ok (.iconst 4, 1) := by decide +kernel
theorem dX8_prepare_8 : decode cX8_prepare 8 = .ok (.iload_n 1, 1) := by decide +kernel
theorem dX8_prepare_9 : decode cX8_prepare 9 = .ok (.imul, 1) := by decide +kernel
theorem dX8_prepare_10 : decode cX8_prepare 10 = .ok (.iload_n 3, 1) := by decide +kernel
theorem dX8_prepare_11 : decode cX8_prepare 11 = .ok (.iadd, 1) := by decide +kernel
theorem dX8_prepare_12 : decode cX8_prepare 12 = .ok (.istore 4, 2) := by decide +kernel
theorem dX8_prepare_14 : decode cX8_prepare 14 = .ok (.iload 4, 2) := by decide +kernel
theorem dX8_prepare_16 : decode cX8_prepare 16 = .ok (.ifCond .lt 30, 3) := by decide +kernel
theorem dX8_prepare_19 : decode cX8_prepare 19 = .ok (.iload 4, 2) := by decide +kernel
theorem dX8_prepare_21 : decode cX8_prepare 21 = .ok (.aload_n 0, 1) := by decide +kernel
theorem dX8_prepare_22 : decode cX8_prepare 22 = .ok (.getfield 15, 3) := by decide +kernel
theorem dX8_prepare_25 : decode cX8_prepare 25 = .ok (.arraylength, 1) := by decide +kernel
theorem dX8_prepare_26 : decode cX8_prepare 26 = .ok (.if_icmp .ge 20, 3) := by decide +kernel
theorem dX8_prepare_29 : decode cX8_prepare 29 = .ok (.aload_n 0, 1) := by decide +kernel
theorem dX8_prepare_30 : decode cX8_prepare 30 = .ok (.getfield 15, 3) := by decide +kernel
theorem dX8_prepare_33 : decode cX8_prepare 33 = .ok (.iload 4, 2) := by decide +kernel
theorem dX8_prepare_35 : decode cX8_prepare 35 = .ok (.iload_n 2, 1) := by decide +kernel
theorem dX8_prepare_36 : decode cX8_prepare 36 = .ok (.bipush 24, 2) := by decide +kernel
theorem dX8_prepare_38 : decode cX8_prepare 38 = .ok (.bipush 8, 2) := by decide +kernel
theorem dX8_prepare_40 : decode cX8_prepare 40 = .ok (.iload_n 3, 1) := by decide +kernel
theorem dX8_prepare_41 : decode cX8_prepare 41 = .ok (.imul, 1) := by decide +kernel
theorem dX8_prepare_42 : decode cX8_prepare 42 = .ok (.isub, 1) := by decide +kernel
theorem dX8_prepare_43 : decode cX8_prepare 43 = .ok (.ishr, 1) := by decide +kernel
theorem dX8_prepare_44 : decode cX8_prepare 44 = .ok (.i2b, 1) := by decide +kernel
theorem dX8_prepare_45 : decode cX8_prepare 45 = .ok (.bastore, 1) := by decide +kernel
theorem dX8_prepare_46 : decode cX8_prepare 46 = .ok (.iinc 3 1, 3) := by decide +kernel
theorem dX8_prepare_49 : decode cX8_prepare 49 = .ok (.goto (-47), 3) := by decide +kernel
theorem dX8_prepare_52 : decode cX8_prepare 52 = .ok (.return_, 1) := by decide +kernel
theorem dX0_feed_0 : decode cX0_feed 0 = .ok (.aload_n 0, 1) := by decide +kernel
theorem dX0_feed_1 : decode cX0_feed 1 = .ok (.getfield 85, 3) := by decide +kernel
theorem dX0_feed_4 : decode cX0_feed 4 = .ok (.iconst 0, 1) := by decide +kernel
theorem dX0_feed_5 : decode cX0_feed 5 = .ok (.iload_n 1, 1) := by decide +kernel
theorem dX0_feed_6 : decode cX0_feed 6 = .ok (.invokevirtual 93, 3) := by decide +kernel
theorem dX0_feed_9 : decode cX0_feed 9 = .ok (.aload_n 0, 1) := by decide +kernel
theorem dX0_feed_10 : decode cX0_feed 10 = .ok (.getfield 85, 3) := by decide +kernel
theorem dX0_feed_13 : decode cX0_feed 13 = .ok (.iconst 1, 1) := by decide +kernel
theorem dX0_feed_14 : decode cX0_feed 14 = .ok (.iload_n 2, 1) := by decide +kernel
theorem dX0_feed_15 : decode cX0_feed 15 = .ok (.invokevirtual 93, 3) := by decide +kernel
theorem dX0_feed_18 : decode cX0_feed 18 = .ok (.aload_n 0, 1) := by decide +kernel
theorem dX0_feed_19 : decode cX0_feed 19 = .ok (.getfield 85, 3) := by decide +kernel
theorem dX0_feed_22 : decode cX0_feed 22 = .ok (.iconst 2, 1) := by decide +kernel
theorem dX0_feed_23 : decode cX0_feed 23 = .ok (.iload_n 3, 1) := by decide +kernel
theorem dX0_feed_24 : decode cX0_feed 24 = .ok (.invokevirtual 93, 3) := by decide +kernel
theorem dX0_feed_27 : decode cX0_feed 27 = .ok (.aload_n 0, 1) := by decide +kernel
theorem dX0_feed_28 : decode cX0_feed 28 = .ok (.getfield 85, 3) := by decide +kernel
theorem dX0_feed_31 : decode cX0_feed 31 = .ok (.iconst 3, 1) := by decide +kernel
theorem dX0_feed_32 : decode cX0_feed 32 = .ok (.iload 4, 2) := by decide +kernel
theorem dX0_feed_34 : decode cX0_feed 34 = .ok (.invokevirtual 93, 3) := by decide +kernel
theorem dX0_feed_37 : decode cX0_feed 37 = .ok (.aload_n 0, 1) := by decide +kernel
theorem dX0_feed_38 : decode cX0_feed 38 = .ok (.getfield 85, 3) := by decide +kernel
theorem dX0_feed_41 : decode cX0_feed 41 = .ok (.iconst 4, 1) := by decide +kernel
theorem dX0_feed_42 : decode cX0_feed 42 = .ok (.iload 5, 2) := by decide +kernel
theorem dX0_feed_44 : decode cX0_feed 44 = .ok (.invokevirtual 93, 3) := by decide +kernel
theorem dX0_feed_47 : decode cX0_feed 47 = .ok (.return_, 1) := by decide +kernel
theorem dJ2_fill_0 : decode cJ2_fill 0 = .ok (.iconst 0, 1) := by decide +kernel
theorem dJ2_fill_1 : decode cJ2_fill 1 = .ok (.istore_n 2, 1) := by decide +kernel
theorem dJ2_fill_2 : decode cJ2_fill 2 = .ok (.aload_n 0, 1) := by decide +kernel
theorem dJ2_fill_3 : decode cJ2_fill 3 = .ok (.arraylength, 1) := by decide +kernel
theorem dJ2_fill_4 : decode cJ2_fill 4 = .ok (.istore_n 3, 1) := by decide +kernel
theorem dJ2_fill_5 : decode cJ2_fill 5 = .ok (.iload_n 2, 1) := by decide +kernel
theorem dJ2_fill_6 : decode cJ2_fill 6 = .ok (.iload_n 3, 1) := by decide +kernel
theorem dJ2_fill_7 : decode cJ2_fill 7 = .ok (.if_icmp .ge 13, 3) := by decide +kernel
theorem dJ2_fill_10 : decode cJ2_fill 10 = .ok (.aload_n 0, 1) := by decide +kernel
theorem dJ2_fill_11 : decode cJ2_fill 11 = .ok (.iload_n 2, 1) := by decide +kernel
theorem dJ2_fill_12 : decode cJ2_fill 12 = .ok (.iload_n 1, 1) := by decide +kernel
theorem dJ2_fill_13 : decode cJ2_fill 13 = .ok (.bastore, 1) := by decide +kernel
theorem dJ2_fill_14 : decode cJ2_fill 14 = .ok (.iinc 2 1, 3) := by decide +kernel
theorem dJ2_fill_17 : decode cJ2_fill 17 = .ok (.goto (-12), 3) := by decide +kernel
theorem dJ2_fill_20 : decode cJ2_fill 20 = .ok (.return_, 1) := by decide +kernel
theorem dX8_bring_0 : decode cX8_bring 0 = .ok (.iload_n 1, 1) := by decide +kernel
theorem dX8_bring_1 : decode cX8_bring 1 = .ok (.ifCond .lt 26, 3) := by decide +kernel
theorem dX8_bring_4 : decode cX8_bring 4 = .ok (.iload_n 1, 1) := by decide +kernel
theorem dX8_bring_5 : decode cX8_bring 5 = .ok (.aload_n 0, 1) := by decide +kernel
theorem dX8_bring_6 : decode cX8_bring 6 = .ok (.getfield 15, 3) := by decide +kernel
theorem dX8_bring_9 : decode cX8_bring 9 = .ok (.arraylength, 1) := by decide +kernel
theorem dX8_bring_10 : decode cX8_bring 10 = .ok (.if_icmp .gt 17, 3) := by decide +kernel
theorem dX8_bring_13 : decode cX8_bring 13 = .ok (.iload_n 1, 1) := by decide +kernel
theorem dX8_bring_14 : decode cX8_bring 14 = .ok (.aload_n 0, 1) := by decide +kernel
theorem dX8_bring_15 : decode cX8_bring 15 = .ok (.getfield 9, 3) := by decide +kernel
theorem dX8_bring_18 : decode cX8_bring 18 = .ok (.arraylength, 1) := by decide +kernel
theorem dX8_bring_19 : decode cX8_bring 19 = .ok (.aload_n 0, 1) := by decide +kernel
theorem dX8_bring_20 : decode cX8_bring 20 = .ok (.getfield 18, 3) := by decide +kernel
theorem dX8_bring_23 : decode cX8_bring 23 = .ok (.isub, 1) := by decide +kernel
theorem dX8_bring_24 : decode cX8_bring 24 = .ok (.if_icmp .le 5, 3) := by decide +kernel
theorem dX8_bring_27 : decode cX8_bring 27 = .ok (.iconst (-1), 1) := by decide +kernel
theorem dX8_bring_28 : decode cX8_bring 28 = .ok (.ireturn, 1) := by decide +kernel
theorem dX8_bring_29 : decode cX8_bring 29 = .ok (.aload_n 0, 1) := by decide +kernel
theorem dX8_bring_30 : decode cX8_bring 30 = .ok (.getfield 15, 3) := by decide +kernel
theorem dX8_bring_33 : decode cX8_bring 33 = .ok (.iconst 0, 1) := by decide +kernel
theorem dX8_bring_34 : decode cX8_bring 34 = .ok (.aload_n 0, 1) := by decide +kernel
theorem dX8_bring_35 : decode cX8_bring 35 = .ok (.getfield 9, 3) := by decide +kernel
theorem dX8_bring_38 : decode cX8_bring 38 = .ok (.aload_n 0, 1) := by decide +kernel
theorem dX8_bring_39 : decode cX8_bring 39 = .ok (.getfield 18, 3) := by decide +kernel
theorem dX8_bring_42 : decode cX8_bring 42 = .ok (.iload_n 1, 1) := by decide +kernel
theorem dX8_bring_43 : decode cX8_bring 43 = .ok (.invokestatic 22, 3) := by decide +kernel
theorem dX8_bring_46 : decode cX8_bring 46 = .ok (.aload_n 0, 1) := by decide +kernel
theorem dX8_bring_47 : decode cX8_bring 47 = .ok (.getfield 15, 3) := by decide +kernel
theorem dX8_bring_50 : decode cX8_bring 50 = .ok (.iconst 0, 1) := by decide +kernel
theorem dX8_bring_51 : decode cX8_bring 51 = .ok (.invokestatic 28, 3) := by decide +kernel
theorem dX8_bring_54 : decode cX8_bring 54 = .ok (.aload_n 0, 1) := by decide +kernel
theorem dX8_bring_55 : decode cX8_bring 55 = .ok (.dup, 1) := by decide +kernel
theorem dX8_bring_56 : decode cX8_bring 56 = .ok (.getfield 18, 3) := by decide +kernel
theorem dX8_bring_59 : decode cX8_bring 59 = .ok (.iload_n 1, 1) := by decide +kernel
theorem dX8_bring_60 : decode cX8_bring 60 = .ok (.iadd, 1) := by decide +kernel
theorem dX8_bring_61 : decode cX8_bring 61 = .ok (.putfield 18, 3) := by decide +kernel
theorem dX8_bring_64 : decode cX8_bring 64 = .ok (.aload_n 0, 1) := by decide +kernel
theorem dX8_bring_65 : decode cX8_bring 65 = .ok (.getfield 18, 3) := by decide +kernel
theorem dX8_bring_68 : decode cX8_bring 68 = .ok (.ireturn, 1) := by decide +kernel
theorem dX0_end_0 : decode cX0_end 0 = .ok (.aload_n 0, 1) := by decide +kernel
theorem dX0_end_1 : decode cX0_end 1 = .ok (.getfield 85, 3) := by decide +kernel
theorem dX0_end_4 : decode cX0_end 4 = .ok (.iload_n 1, 1) := by decide +kernel
theorem dX0_end_5 : decode cX0_end 5 = .ok (.invokevirtual 97, 3) := by decide +kernel
theorem dX0_end_8 : decode cX0_end 8 = .ok (.ireturn, 1) := by decide +kernel
theorem dX2_choose_0 : decode cX2_choose 0 = .ok (.iload_n 1, 1) := by decide +kernel
theorem dX2_choose_1 : decode cX2_choose 1 = .ok (.bipush 64, 2) := by decide +kernel
theorem dX2_choose_3 : decode cX2_choose 3 = .ok (.if_icmp .eq 17, 3) := by decide +kernel
theorem dX2_choose_6 : decode cX2_choose 6 = .ok (.iload_n 1, 1) := by decide +kernel
theorem dX2_choose_7 : decode cX2_choose 7 = .ok (.sipush 128, 3) := by decide +kernel
theorem dX2_choose_10 : decode cX2_choose 10 = .ok (.if_icmp .eq 10, 3) := by decide +kernel
theorem dX2_choose_13 : decode cX2_choose 13 = .ok (.iload_n 1, 1) := by decide +kernel
theorem dX2_choose_14 : decode cX2_choose 14 = .ok (.sipush 256, 3) := by decide +kernel
theorem dX2_choose_17 : decode cX2_choose 17 = .ok (.if_icmp .ne 7, 3) := by decide +kernel
theorem dX2_choose_20 : decode cX2_choose 20 = .ok (.iconst 1, 1) := by decide +kernel
theorem dX2_choose_21 : decode cX2_choose 21 = .ok (.goto 4, 3) := by decide +kernel
theorem dX2_choose_24 : decode cX2_choose 24 = .ok (.iconst 0, 1) := by decide +kernel
theorem dX2_choose_25 : decode cX2_choose 25 = .ok (.istore_n 3, 1) := by decide +kernel
theorem dX2_choose_26 : decode cX2_choose 26 = .ok (.iload_n 3, 1) := by decide +kernel
theorem dX2_choose_27 : decode cX2_choose 27 = .ok (.ifCond .eq 16, 3) := by decide +kernel
theorem dX2_choose_30 : decode cX2_choose 30 = .ok (.iload_n 2, 1) := by decide +kernel
theorem dX2_choose_31 : decode cX2_choose 31 = .ok (.bipush 12, 2) := by decide +kernel
theorem dX2_choose_33 : decode cX2_choose 33 = .ok (.if_icmp .lt 10, 3) := by decide +kernel
theorem dX2_choose_36 : decode cX2_choose 36 = .ok (.iload_n 2, 1) := by decide +kernel
theorem dX2_choose_37 : decode cX2_choose 37 = .ok (.sipush 2000, 3) := by decide +kernel
theorem dX2_choose_40 : decode cX2_choose 40 = .ok (.if_icmp .le 5, 3) := by decide +kernel
theorem dX2_choose_43 : decode cX2_choose 43 = .ok (.iconst 0, 1) := by decide +kernel
theorem dX2_choose_44 : decode cX2_choose 44 = .ok (.ireturn, 1) := by decide +kernel
theorem dX2_choose_45 : decode cX2_choose 45 = .ok (.aload_n 0, 1) := by decide +kernel
theorem dX2_choose_46 : decode cX2_choose 46 = .ok (.getfield 9, 3) := by decide +kernel
theorem dX2_choose_49 : decode cX2_choose 49 = .ok (.iconst 1, 1) := by decide +kernel
theorem dX2_choose_50 : decode cX2_choose 50 = .ok (.isub, 1) := by decide +kernel
theorem dX2_choose_51 : decode cX2_choose 51 = .ok (.iload_n 1, 1) := by decide +kernel
theorem dX2_choose_52 : decode cX2_choose 52 = .ok (.iadd, 1) := by decide +kernel
theorem dX2_choose_53 : decode cX2_choose 53 = .ok (.iconst 1, 1) := by decide +kernel
theorem dX2_choose_54 : decode cX2_choose 54 = .ok (.isub, 1) := by decide +kernel
theorem dX2_choose_55 : decode cX2_choose 55 = .ok (.iload_n 1, 1) := by decide +kernel
theorem dX2_choose_56 : decode cX2_choose 56 = .ok (.idiv, 1) := by decide +kernel
theorem dX2_choose_57 : decode cX2_choose 57 = .ok (.istore 4, 2) := by decide +kernel
theorem dX2_choose_59 : decode cX2_choose 59 = .ok (.iload 4, 2) := by decide +kernel
theorem dX2_choose_61 : decode cX2_choose 61 = .ok (.iconst 1, 1) := by decide +kernel
theorem dX2_choose_62 : decode cX2_choose 62 = .ok (.if_icmp .ge 5, 3) := by decide +kernel
theorem dX2_choose_65 : decode cX2_choose 65 = .ok (.iconst 0, 1) := by decide +kernel
theorem dX2_choose_66 : decode cX2_choose 66 = .ok (.ireturn, 1) := by decide +kernel
theorem dX2_choose_67 : decode cX2_choose 67 = .ok (.iload_n 2, 1) := by decide +kernel
theorem dX2_choose_68 : decode cX2_choose 68 = .ok (.bipush 8, 2) := by decide +kernel
theorem dX2_choose_70 : decode cX2_choose 70 = .ok (.iload 4, 2) := by decide +kernel
theorem dX2_choose_72 : decode cX2_choose 72 = .ok (.imul, 1) := by decide +kernel
theorem dX2_choose_73 : decode cX2_choose 73 = .ok (.iadd, 1) := by decide +kernel
theorem dX2_choose_74 : decode cX2_choose 74 = .ok (.iconst 1, 1) := by decide +kernel
theorem dX2_choose_75 : decode cX2_choose 75 = .ok (.isub, 1) := by decide +kernel
theorem dX2_choose_76 : decode cX2_choose 76 = .ok (.bipush 8, 2) := by decide +kernel
theorem dX2_choose_78 : decode cX2_choose 78 = .ok (.iload 4, 2) := by decide +kernel
theorem dX2_choose_80 : decode cX2_choose 80 = .ok (.imul, 1) := by decide +kernel
theorem dX2_choose_81 : decode cX2_choose 81 = .ok (.idiv, 1) := by decide +kernel
theorem dX2_choose_82 : decode cX2_choose 82 = .ok (.istore 5, 2) := by decide +kernel
theorem dX2_choose_84 : decode cX2_choose 84 = .ok (.aload_n 0, 1) := by decide +kernel
theorem dX2_choose_85 : decode cX2_choose 85 = .ok (.getfield 9, 3) := by decide +kernel
theorem dX2_choose_88 : decode cX2_choose 88 = .ok (.iconst 1, 1) := by decide +kernel
theorem dX2_choose_89 : decode cX2_choose 89 = .ok (.isub, 1) := by decide +kernel
theorem dX2_choose_90 : decode cX2_choose 90 = .ok (.iload 4, 2) := by decide +kernel
theorem dX2_choose_92 : decode cX2_choose 92 = .ok (.iconst 1, 1) := by decide +kernel
theorem dX2_choose_93 : decode cX2_choose 93 = .ok (.isub, 1) := by decide +kernel
theorem dX2_choose_94 : decode cX2_choose 94 = .ok (.iload_n 1, 1) := by decide +kernel
theorem dX2_choose_95 : decode cX2_choose 95 = .ok (.imul, 1) := by decide +kernel
theorem dX2_choose_96 : decode cX2_choose 96 = .ok (.isub, 1) := by decide +kernel
theorem dX2_choose_97 : decode cX2_choose 97 = .ok (.istore 6, 2) := by decide +kernel
theorem dX2_choose_99 : decode cX2_choose 99 = .ok (.iload 6, 2) := by decide +kernel
theorem dX2_choose_101 : decode cX2_choose 101 = .ok (.iconst 4, 1) := by decide +kernel
theorem dX2_choose_102 : decode cX2_choose 102 = .ok (.iload 5, 2) := by decide +kernel
theorem dX2_choose_104 : decode cX2_choose 104 = .ok (.iadd, 1) := by decide +kernel
theorem dX2_choose_105 : decode cX2_choose 105 = .ok (.bipush 8, 2) := by decide +kernel
theorem dX2_choose_107 : decode cX2_choose 107 = .ok (.iadd, 1) := by decide +kernel
theorem dX2_choose_108 : decode cX2_choose 108 = .ok (.if_icmp .ge 5, 3) := by decide +kernel
theorem dX2_choose_111 : decode cX2_choose 111 = .ok (.iconst 0, 1) := by decide +kernel
theorem dX2_choose_112 : decode cX2_choose 112 = .ok (.ireturn, 1) := by decide +kernel
theorem dX2_choose_113 : decode cX2_choose 113 = .ok (.aload_n 0, 1) := by decide +kernel
theorem dX2_choose_114 : decode cX2_choose 114 = .ok (.iload_n 1, 1) := by decide +kernel
theorem dX2_choose_115 : decode cX2_choose 115 = .ok (.putfield 15, 3) := by decide +kernel
theorem dX2_choose_118 : decode cX2_choose 118 = .ok (.aload_n 0, 1) := by decide +kernel
theorem dX2_choose_119 : decode cX2_choose 119 = .ok (.iload 4, 2) := by decide +kernel
theorem dX2_choose_121 : decode cX2_choose 121 = .ok (.putfield 18, 3) := by decide +kernel
theorem dX2_choose_124 : decode cX2_choose 124 = .ok (.aload_n 0, 1) := by decide +kernel
theorem dX2_choose_125 : decode cX2_choose 125 = .ok (.bipush 8, 2) := by decide +kernel
theorem dX2_choose_127 : decode cX2_choose 127 = .ok (.iload 5, 2) := by decide +kernel
theorem dX2_choose_129 : decode cX2_choose 129 = .ok (.imul, 1) := by decide +kernel
theorem dX2_choose_130 : decode cX2_choose 130 = .ok (.putfield 21, 3) := by decide +kernel
theorem dX2_choose_133 : decode cX2_choose 133 = .ok (.iconst 1, 1) := by decide +kernel
theorem dX2_choose_134 : decode cX2_choose 134 = .ok (.ireturn, 1) := by decide +kernel
theorem dX1_length_0 : decode cX1_length 0 = .ok (.aload_n 0, 1) := by decide +kernel
theorem dX1_length_1 : decode cX1_length 1 = .ok (.getfield 15, 3) := by decide +kernel
theorem dX1_length_4 : decode cX1_length 4 = .ok (.arraylength, 1) := by decide +kernel
theorem dX1_length_5 : decode cX1_length 5 = .ok (.ireturn, 1) := by decide +kernel
theorem dJ2_rangeCheck_0 : decode cJ2_rangeCheck 0 = .ok (.iload_n 1, 1) := by decide +kernel
theorem dJ2_rangeCheck_1 : decode cJ2_rangeCheck 1 = .ok (.iload_n 2, 1) := by decide +kernel
theorem dJ2_rangeCheck_2 : decode cJ2_rangeCheck 2 = .ok (.if_icmp .le 44, 3) := by decide +kernel
theorem dJ2_rangeCheck_5 : decode cJ2_rangeCheck 5 = .ok (.new 43, 3) := by decide +kernel
theorem dJ2_rangeCheck_8 : decode cJ2_rangeCheck 8 = .ok (.dup, 1) := by decide +kernel
theorem dJ2_rangeCheck_9 : decode cJ2_rangeCheck 9 = .ok (.new 45, 3) := by decide +kernel
theorem dJ2_rangeCheck_12 : decode cJ2_rangeCheck 12 = .ok (.dup, 1) := by decide +kernel
theorem dJ2_rangeCheck_13 : decode cJ2_rangeCheck 13 = .ok (.invokespecial 47, 3) := by decide +kernel
theorem dJ2_rangeCheck_16 : decode cJ2_rangeCheck 16 = .ok (.ldc 48, 2) := by decide +kernel
theorem dJ2_rangeCheck_18 : decode cJ2_rangeCheck 18 = .ok (.invokevirtual 50, 3) := by decide +kernel
theorem dJ2_rangeCheck_21 : decode cJ2_rangeCheck 21 = .ok (.iload_n 1, 1) := by decide +kernel
theorem dJ2_rangeCheck_22 : decode cJ2_rangeCheck 22 = .ok (.invokevirtual 54, 3) := by decide +kernel
theorem dJ2_rangeCheck_25 : decode cJ2_rangeCheck 25 = .ok (.ldc 57, 2) := by decide +kernel
theorem dJ2_rangeCheck_27 : decode cJ2_rangeCheck 27 = .ok (.invokevirtual 50, 3) := by decide +kernel
theorem dJ2_rangeCheck_30 : decode cJ2_rangeCheck 30 = .ok (.iload_n 2, 1) := by decide +kernel
theorem dJ2_rangeCheck_31 : decode cJ2_rangeCheck 31 = .ok (.invokevirtual 54, 3) := by decide +kernel
theorem dJ2_rangeCheck_34 : decode cJ2_rangeCheck 34 = .ok (.ldc 59, 2) := by decide +kernel
theorem dJ2_rangeCheck_36 : decode cJ2_rangeCheck 36 = .ok (.invokevirtual 50, 3) := by decide +kernel
theorem dJ2_rangeCheck_39 : decode cJ2_rangeCheck 39 = .ok (.invokevirtual 61, 3) := by decide +kernel
theorem dJ2_rangeCheck_42 : decode cJ2_rangeCheck 42 = .ok (.invokespecial 65, 3) := by decide +kernel
theorem dJ2_rangeCheck_45 : decode cJ2_rangeCheck 45 = .ok (.athrow, 1) := by decide +kernel
theorem dJ2_rangeCheck_46 : decode cJ2_rangeCheck 46 = .ok (.iload_n 1, 1) := by decide +kernel
theorem dJ2_rangeCheck_47 : decode cJ2_rangeCheck 47 = .ok (.ifCond .ge 12, 3) := by decide +kernel
theorem dJ2_rangeCheck_50 : decode cJ2_rangeCheck 50 = .ok (.new 68, 3) := by decide +kernel
theorem dJ2_rangeCheck_53 : decode cJ2_rangeCheck 53 = .ok (.dup, 1) := by decide +kernel
theorem dJ2_rangeCheck_54 : decode cJ2_rangeCheck 54 = .ok (.iload_n 1, 1) := by decide +kernel
theorem dJ2_rangeCheck_55 : decode cJ2_rangeCheck 55 = .ok (.invokespecial 70, 3) := by decide +kernel
theorem dJ2_rangeCheck_58 : decode cJ2_rangeCheck 58 = .ok (.athrow, 1) := by decide +kernel
theorem dJ2_rangeCheck_59 : decode cJ2_rangeCheck 59 = .ok (.iload_n 2, 1) := by decide +kernel
theorem dJ2_rangeCheck_60 : decode cJ2_rangeCheck 60 = .ok (.iload_n 0, 1) := by decide +kernel
theorem dJ2_rangeCheck_61 : decode cJ2_rangeCheck 61 = .ok (.if_icmp .le 12, 3) := by decide +kernel
theorem dJ2_rangeCheck_64 : decode cJ2_rangeCheck 64 = .ok (.new 68, 3) := by decide +kernel
theorem dJ2_rangeCheck_67 : decode cJ2_rangeCheck 67 = .ok (.dup, 1) := by decide +kernel
theorem dJ2_rangeCheck_68 : decode cJ2_rangeCheck 68 = .ok (.iload_n 2, 1) := by decide +kernel
theorem dJ2_rangeCheck_69 : decode cJ2_rangeCheck 69 = .ok (.invokespecial 70, 3) := by decide +kernel
theorem dJ2_rangeCheck_72 : decode cJ2_rangeCheck 72 = .ok (.athrow, 1) := by decide +kernel
theorem dJ2_rangeCheck_73 : decode cJ2_rangeCheck 73 = .ok (.return_, 1) := by decide +kernel
theorem dJ2_fill___0 : decode cJ2_fill__ 0 = .ok (.aload_n 0, 1) := by decide +kernel
theorem dJ2_fill___1 : decode cJ2_fill__ 1 = .ok (.arraylength, 1) := by decide +kernel
theorem dJ2_fill___2 : decode cJ2_fill__ 2 = .ok (.iload_n 1, 1) := by decide +kernel
theorem dJ2_fill___3 : decode cJ2_fill__ 3 = .ok (.iload_n 2, 1) := by decide +kernel
theorem dJ2_fill___4 : decode cJ2_fill__ 4 = .ok (.invokestatic 13, 3) := by decide +kernel
theorem dJ2_fill___7 : decode cJ2_fill__ 7 = .ok (.iload_n 1, 1) := by decide +kernel
theorem dJ2_fill___8 : decode cJ2_fill__ 8 = .ok (.istore 4, 2) := by decide +kernel
theorem dJ2_fill___10 : decode cJ2_fill__ 10 = .ok (.iload 4, 2) := by decide +kernel
theorem dJ2_fill___12 : decode cJ2_fill__ 12 = .ok (.iload_n 2, 1) := by decide +kernel
theorem dJ2_fill___13 : decode cJ2_fill__ 13 = .ok (.if_icmp .ge 14, 3) := by decide +kernel
theorem dJ2_fill___16 : decode cJ2_fill__ 16 = .ok (.aload_n 0, 1) := by decide +kernel
theorem dJ2_fill___17 : decode cJ2_fill__ 17 = .ok (.iload 4, 2) := by decide +kernel
theorem dJ2_fill___19 : decode cJ2_fill__ 19 = .ok (.iload_n 3, 1) := by decide +kernel
theorem dJ2_fill___20 : decode cJ2_fill__ 20 = .ok (.bastore, 1) := by decide +kernel
theorem dJ2_fill___21 : decode cJ2_fill__ 21 = .ok (.iinc 4 1, 3) := by decide +kernel
theorem dJ2_fill___24 : decode cJ2_fill__ 24 = .ok (.goto (-14), 3) := by decide +kernel
theorem dJ2_fill___27 : decode cJ2_fill__ 27 = .ok (.return_, 1) := by decide +kernel
theorem dX1_fill_0 : decode cX1_fill 0 = .ok (.iload_n 1, 1) := by decide +kernel
theorem dX1_fill_1 : decode cX1_fill 1 = .ok (.ifCond .lt 28, 3) := by decide +kernel
theorem dX1_fill_4 : decode cX1_fill 4 = .ok (.iload_n 1, 1) := by decide +kernel
theorem dX1_fill_5 : decode cX1_fill 5 = .ok (.iload_n 2, 1) := by decide +kernel
theorem dX1_fill_6 : decode cX1_fill 6 = .ok (.if_icmp .gt 23, 3) := by decide +kernel
theorem dX1_fill_9 : decode cX1_fill 9 = .ok (.iload_n 2, 1) := by decide +kernel
theorem dX1_fill_10 : decode cX1_fill 10 = .ok (.aload_n 0, 1) := by decide +kernel
theorem dX1_fill_11 : decode cX1_fill 11 = .ok (.getfield 15, 3) := by decide +kernel
theorem dX1_fill_14 : decode cX1_fill 14 = .ok (.arraylength, 1) := by decide +kernel
theorem dX1_fill_15 : decode cX1_fill 15 = .ok (.if_icmp .gt 14, 3) := by decide +kernel
theorem dX1_fill_18 : decode cX1_fill 18 = .ok (.aload_n 0, 1) := by decide +kernel
theorem dX1_fill_19 : decode cX1_fill 19 = .ok (.getfield 15, 3) := by decide +kernel
theorem dX1_fill_22 : decode cX1_fill 22 = .ok (.iload_n 1, 1) := by decide +kernel
theorem dX1_fill_23 : decode cX1_fill 23 = .ok (.iload_n 2, 1) := by decide +kernel
theorem dX1_fill_24 : decode cX1_fill 24 = .ok (.iload_n 3, 1) := by decide +kernel
theorem dX1_fill_25 : decode cX1_fill 25 = .ok (.i2b, 1) := by decide +kernel
theorem dX1_fill_26 : decode cX1_fill 26 = .ok (.invokestatic 21, 3) := by decide +kernel
theorem dX1_fill_29 : decode cX1_fill 29 = .ok (.return_, 1) := by decide +kernel
theorem dX2_groupBlocks_0 : decode cX2_groupBlocks 0 = .ok (.aload_n 0, 1) := by decide +kernel
theorem dX2_groupBlocks_1 : decode cX2_groupBlocks 1 = .ok (.getfield 15, 3) := by decide +kernel
theorem dX2_groupBlocks_4 : decode cX2_groupBlocks 4 = .ok (.ireturn, 1) := by decide +kernel
theorem dX2_fixedBlocks_0 : decode cX2_fixedBlocks 0 = .ok (.iconst 4, 1) := by decide +kernel
theorem dX2_fixedBlocks_1 : decode cX2_fixedBlocks 1 = .ok (.aload_n 0, 1) := by decide +kernel
theorem dX2_fixedBlocks_2 : decode cX2_fixedBlocks 2 = .ok (.getfield 21, 3) := by decide +kernel
theorem dX2_fixedBlocks_5 : decode cX2_fixedBlocks 5 = .ok (.bipush 8, 2) := by decide +kernel
theorem dX2_fixedBlocks_7 : decode cX2_fixedBlocks 7 = .ok (.idiv, 1) := by decide +kernel
theorem dX2_fixedBlocks_8 : decode cX2_fixedBlocks 8 = .ok (.iadd, 1) := by decide +kernel
theorem dX2_fixedBlocks_9 : decode cX2_fixedBlocks 9 = .ok (.ireturn, 1) := by decide +kernel
theorem dX2_groups_0 : decode cX2_groups 0 = .ok (.aload_n 0, 1) := by decide +kernel
theorem dX2_groups_1 : decode cX2_groups 1 = .ok (.getfield 18, 3) := by decide +kernel
theorem dX2_groups_4 : decode cX2_groups 4 = .ok (.ireturn, 1) := by decide +kernel
theorem dX2_partAt_0 : decode cX2_partAt 0 = .ok (.iconst 1, 1) := by decide +kernel
theorem dX2_partAt_1 : decode cX2_partAt 1 = .ok (.iload_n 1, 1) := by decide +kernel
theorem dX2_partAt_2 : decode cX2_partAt 2 = .ok (.aload_n 0, 1) := by decide +kernel
theorem dX2_partAt_3 : decode cX2_partAt 3 = .ok (.getfield 15, 3) := by decide +kernel
theorem dX2_partAt_6 : decode cX2_partAt 6 = .ok (.imul, 1) := by decide +kernel
theorem dX2_partAt_7 : decode cX2_partAt 7 = .ok (.iadd, 1) := by decide +kernel
theorem dX2_partAt_8 : decode cX2_partAt 8 = .ok (.iload_n 2, 1) := by decide +kernel
theorem dX2_partAt_9 : decode cX2_partAt 9 = .ok (.iadd, 1) := by decide +kernel
theorem dX2_partAt_10 : decode cX2_partAt 10 = .ok (.sipush 1024, 3) := by decide +kernel
theorem dX2_partAt_13 : decode cX2_partAt 13 = .ok (.imul, 1) := by decide +kernel
theorem dX2_partAt_14 : decode cX2_partAt 14 = .ok (.ireturn, 1) := by decide +kernel
theorem dX2_firstBlock_0 : decode cX2_firstBlock 0 = .ok (.iconst 1, 1) := by decide +kernel
theorem dX2_firstBlock_1 : decode cX2_firstBlock 1 = .ok (.iload_n 1, 1) := by decide +kernel
theorem dX2_firstBlock_2 : decode cX2_firstBlock 2 = .ok (.aload_n 0, 1) := by decide +kernel
theorem dX2_firstBlock_3 : decode cX2_firstBlock 3 = .ok (.getfield 15, 3) := by decide +kernel
theorem dX2_firstBlock_6 : decode cX2_firstBlock 6 = .ok (.imul, 1) := by decide +kernel
theorem dX2_firstBlock_7 : decode cX2_firstBlock 7 = .ok (.iadd, 1) := by decide +kernel
theorem dX2_firstBlock_8 : decode cX2_firstBlock 8 = .ok (.ireturn, 1) := by decide +kernel
theorem dX2_blocksIn_0 : decode cX2_blocksIn 0 = .ok (.aload_n 0, 1) := by decide +kernel
theorem dX2_blocksIn_1 : decode cX2_blocksIn 1 = .ok (.getfield 15, 3) := by decide +kernel
theorem dX2_blocksIn_4 : decode cX2_blocksIn 4 = .ok (.aload_n 0, 1) := by decide +kernel
theorem dX2_blocksIn_5 : decode cX2_blocksIn 5 = .ok (.getfield 9, 3) := by decide +kernel
theorem dX2_blocksIn_8 : decode cX2_blocksIn 8 = .ok (.aload_n 0, 1) := by decide +kernel
theorem dX2_blocksIn_9 : decode cX2_blocksIn 9 = .ok (.iload_n 1, 1) := by decide +kernel
theorem dX2_blocksIn_10 : decode cX2_blocksIn 10 = .ok (.invokevirtual 24, 3) := by decide +kernel
theorem dX2_blocksIn_13 : decode cX2_blocksIn 13 = .ok (.isub, 1) := by decide +kernel
theorem dX2_blocksIn_14 : decode cX2_blocksIn 14 = .ok (.invokestatic 28, 3) := by decide +kernel
theorem dX2_blocksIn_17 : decode cX2_blocksIn 17 = .ok (.ireturn, 1) := by decide +kernel
theorem dX3_realIn_0 : decode cX3_realIn 0 = .ok (.aload_n 0, 1) := by decide +kernel
theorem dX3_realIn_1 : decode cX3_realIn 1 = .ok (.getfield 19, 3) := by decide +kernel
theorem dX3_realIn_4 : decode cX3_realIn 4 = .ok (.iconst 2, 1) := by decide +kernel
theorem dX3_realIn_5 : decode cX3_realIn 5 = .ok (.if_icmp .ne 14, 3) := by decide +kernel
theorem dX3_realIn_8 : decode cX3_realIn 8 = .ok (.aload_n 0, 1) := by decide +kernel
theorem dX3_realIn_9 : decode cX3_realIn 9 = .ok (.getfield 15, 3) := by decide +kernel
theorem dX3_realIn_12 : decode cX3_realIn 12 = .ok (.iload_n 1, 1) := by decide +kernel
theorem dX3_realIn_13 : decode cX3_realIn 13 = .ok (.invokevirtual 29, 3) := by decide +kernel
theorem dX3_realIn_16 : decode cX3_realIn 16 = .ok (.goto 10, 3) := by decide +kernel
theorem dX3_realIn_19 : decode cX3_realIn 19 = .ok (.aload_n 0, 1) := by decide +kernel
theorem dX3_realIn_20 : decode cX3_realIn 20 = .ok (.getfield 15, 3) := by decide +kernel
theorem dX3_realIn_23 : decode cX3_realIn 23 = .ok (.invokevirtual 35, 3) := by decide +kernel
theorem dX3_realIn_26 : decode cX3_realIn 26 = .ok (.ireturn, 1) := by decide +kernel
theorem dX1_get_0 : decode cX1_get 0 = .ok (.iload_n 1, 1) := by decide +kernel
theorem dX1_get_1 : decode cX1_get 1 = .ok (.ifCond .lt 25, 3) := by decide +kernel
theorem dX1_get_4 : decode cX1_get 4 = .ok (.iload_n 1, 1) := by decide +kernel
theorem dX1_get_5 : decode cX1_get 5 = .ok (.aload_n 0, 1) := by decide +kernel
theorem dX1_get_6 : decode cX1_get 6 = .ok (.getfield 15, 3) := by decide +kernel
theorem dX1_get_9 : decode cX1_get 9 = .ok (.arraylength, 1) := by decide +kernel
theorem dX1_get_10 : decode cX1_get 10 = .ok (.if_icmp .ge 16, 3) := by decide +kernel
theorem dX1_get_13 : decode cX1_get 13 = .ok (.aload_n 0, 1) := by decide +kernel
theorem dX1_get_14 : decode cX1_get 14 = .ok (.getfield 15, 3) := by decide +kernel
theorem dX1_get_17 : decode cX1_get 17 = .ok (.iload_n 1, 1) := by decide +kernel
theorem dX1_get_18 : decode cX1_get 18 = .ok (.baload, 1) := by decide +kernel
theorem dX1_get_19 : decode cX1_get 19 = .ok (.sipush 255, 3) := by decide +kernel
theorem dX1_get_22 : decode cX1_get 22 = .ok (.iand, 1) := by decide +kernel
theorem dX1_get_23 : decode cX1_get 23 = .ok (.goto 4, 3) := by decide +kernel
theorem dX1_get_26 : decode cX1_get 26 = .ok (.iconst 0, 1) := by decide +kernel
theorem dX1_get_27 : decode cX1_get 27 = .ok (.ireturn, 1) := by decide +kernel
theorem dX1_put_0 : decode cX1_put 0 = .ok (.iload_n 1, 1) := by decide +kernel
theorem dX1_put_1 : decode cX1_put 1 = .ok (.ifCond .lt 20, 3) := by decide +kernel
theorem dX1_put_4 : decode cX1_put 4 = .ok (.iload_n 1, 1) := by decide +kernel
theorem dX1_put_5 : decode cX1_put 5 = .ok (.aload_n 0, 1) := by decide +kernel
theorem dX1_put_6 : decode cX1_put 6 = .ok (.getfield 15, 3) := by decide +kernel
theorem dX1_put_9 : decode cX1_put 9 = .ok (.arraylength, 1) := by decide +kernel
theorem dX1_put_10 : decode cX1_put 10 = .ok (.if_icmp .ge 11, 3) := by decide +kernel
theorem dX1_put_13 : decode cX1_put 13 = .ok (.aload_n 0, 1) := by decide +kernel
theorem dX1_put_14 : decode cX1_put 14 = .ok (.getfield 15, 3) := by decide +kernel
theorem dX1_put_17 : decode cX1_put 17 = .ok (.iload_n 1, 1) := by decide +kernel
theorem dX1_put_18 : decode cX1_put 18 = .ok (.iload_n 2, 1) := by decide +kernel
theorem dX1_put_19 : decode cX1_put 19 = .ok (.i2b, 1) := by decide +kernel
theorem dX1_put_20 : decode cX1_put 20 = .ok (.bastore, 1) := by decide +kernel
theorem dX1_put_21 : decode cX1_put 21 = .ok (.return_, 1) := by decide +kernel
theorem dX3_lay_0 : decode cX3_lay 0 = .ok (.aload_n 0, 1) := by decide +kernel
theorem dX3_lay_1 : decode cX3_lay 1 = .ok (.aload_n 0, 1) := by decide +kernel
theorem dX3_lay_2 : decode cX3_lay 2 = .ok (.getfield 19, 3) := by decide +kernel
theorem dX3_lay_5 : decode cX3_lay 5 = .ok (.iconst 2, 1) := by decide +kernel
theorem dX3_lay_6 : decode cX3_lay 6 = .ok (.if_icmp .ne 13, 3) := by decide +kernel
theorem dX3_lay_9 : decode cX3_lay 9 = .ok (.aload_n 0, 1) := by decide +kernel
theorem dX3_lay_10 : decode cX3_lay 10 = .ok (.getfield 15, 3) := by decide +kernel
theorem dX3_lay_13 : decode cX3_lay 13 = .ok (.invokevirtual 39, 3) := by decide +kernel
theorem dX3_lay_16 : decode cX3_lay 16 = .ok (.goto 10, 3) := by decide +kernel
theorem dX3_lay_19 : decode cX3_lay 19 = .ok (.aload_n 0, 1) := by decide +kernel
theorem dX3_lay_20 : decode cX3_lay 20 = .ok (.getfield 15, 3) := by decide +kernel
theorem dX3_lay_23 : decode cX3_lay 23 = .ok (.invokevirtual 35, 3) := by decide +kernel
theorem dX3_lay_26 : decode cX3_lay 26 = .ok (.putfield 42, 3) := by decide +kernel
theorem dX3_lay_29 : decode cX3_lay 29 = .ok (.aload_n 0, 1) := by decide +kernel
theorem dX3_lay_30 : decode cX3_lay 30 = .ok (.getfield 19, 3) := by decide +kernel
theorem dX3_lay_33 : decode cX3_lay 33 = .ok (.iconst 2, 1) := by decide +kernel
theorem dX3_lay_34 : decode cX3_lay 34 = .ok (.if_icmp .ne 13, 3) := by decide +kernel
theorem dX3_lay_37 : decode cX3_lay 37 = .ok (.aload_n 0, 1) := by decide +kernel
theorem dX3_lay_38 : decode cX3_lay 38 = .ok (.getfield 15, 3) := by decide +kernel
theorem dX3_lay_41 : decode cX3_lay 41 = .ok (.invokevirtual 45, 3) := by decide +kernel
theorem dX3_lay_44 : decode cX3_lay 44 = .ok (.goto 4, 3) := by decide +kernel
theorem dX3_lay_47 : decode cX3_lay 47 = .ok (.iconst 0, 1) := by decide +kernel
theorem dX3_lay_48 : decode cX3_lay 48 = .ok (.istore_n 1, 1) := by decide +kernel
theorem dX3_lay_49 : decode cX3_lay 49 = .ok (.iconst 0, 1) := by decide +kernel
theorem dX3_lay_50 : decode cX3_lay 50 = .ok (.istore_n 2, 1) := by decide +kernel
theorem dX3_lay_51 : decode cX3_lay 51 = .ok (.iload_n 2, 1) := by decide +kernel
theorem dX3_lay_52 : decode cX3_lay 52 = .ok (.aload_n 0, 1) := by decide +kernel
theorem dX3_lay_53 : decode cX3_lay 53 = .ok (.getfield 15, 3) := by decide +kernel
theorem dX3_lay_56 : decode cX3_lay 56 = .ok (.invokevirtual 48, 3) := by decide +kernel
theorem dX3_lay_59 : decode cX3_lay 59 = .ok (.if_icmp .ge 95, 3) := by decide +kernel
theorem dX3_lay_62 : decode cX3_lay 62 = .ok (.aload_n 0, 1) := by decide +kernel
theorem dX3_lay_63 : decode cX3_lay 63 = .ok (.getfield 15, 3) := by decide +kernel
theorem dX3_lay_66 : decode cX3_lay 66 = .ok (.iload_n 2, 1) := by decide +kernel
theorem dX3_lay_67 : decode cX3_lay 67 = .ok (.aload_n 0, 1) := by decide +kernel
theorem dX3_lay_68 : decode cX3_lay 68 = .ok (.getfield 19, 3) := by decide +kernel
theorem dX3_lay_71 : decode cX3_lay 71 = .ok (.invokevirtual 51, 3) := by decide +kernel
theorem dX3_lay_74 : decode cX3_lay 74 = .ok (.istore_n 3, 1) := by decide +kernel
theorem dX3_lay_75 : decode cX3_lay 75 = .ok (.aload_n 0, 1) := by decide +kernel
theorem dX3_lay_76 : decode cX3_lay 76 = .ok (.getfield 9, 3) := by decide +kernel
theorem dX3_lay_79 : decode cX3_lay 79 = .ok (.iload_n 3, 1) := by decide +kernel
theorem dX3_lay_80 : decode cX3_lay 80 = .ok (.iload_n 3, 1) := by decide +kernel
theorem dX3_lay_81 : decode cX3_lay 81 = .ok (.sipush 1024, 3) := by decide +kernel
theorem dX3_lay_84 : decode cX3_lay 84 = .ok (.iadd, 1) := by decide +kernel
theorem dX3_lay_85 : decode cX3_lay 85 = .ok (.sipush 255, 3) := by decide +kernel
theorem dX3_lay_88 : decode cX3_lay 88 = .ok (.invokevirtual 55, 3) := by decide +kernel
theorem dX3_lay_91 : decode cX3_lay 91 = .ok (.iload_n 1, 1) := by decide +kernel
theorem dX3_lay_92 : decode cX3_lay 92 = .ok (.istore 4, 2) := by decide +kernel
theorem dX3_lay_94 : decode cX3_lay 94 = .ok (.iload 4, 2) := by decide +kernel
theorem dX3_lay_96 : decode cX3_lay 96 = .ok (.aload_n 0, 1) := by decide +kernel
theorem dX3_lay_97 : decode cX3_lay 97 = .ok (.iload_n 2, 1) := by decide +kernel
theorem dX3_lay_98 : decode cX3_lay 98 = .ok (.invokevirtual 61, 3) := by decide +kernel
theorem dX3_lay_101 : decode cX3_lay 101 = .ok (.if_icmp .ge 47, 3) := by decide +kernel
theorem dX3_lay_104 : decode cX3_lay 104 = .ok (.aload_n 0, 1) := by decide +kernel
theorem dX3_lay_105 : decode cX3_lay 105 = .ok (.getfield 9, 3) := by decide +kernel
theorem dX3_lay_108 : decode cX3_lay 108 = .ok (.iload_n 3, 1) := by decide +kernel
theorem dX3_lay_109 : decode cX3_lay 109 = .ok (.iload 4, 2) := by decide +kernel
theorem dX3_lay_111 : decode cX3_lay 111 = .ok (.bipush 8, 2) := by decide +kernel
theorem dX3_lay_113 : decode cX3_lay 113 = .ok (.idiv, 1) := by decide +kernel
theorem dX3_lay_114 : decode cX3_lay 114 = .ok (.iadd, 1) := by decide +kernel
theorem dX3_lay_115 : decode cX3_lay 115 = .ok (.aload_n 0, 1) := by decide +kernel
theorem dX3_lay_116 : decode cX3_lay 116 = .ok (.getfield 9, 3) := by decide +kernel
theorem dX3_lay_119 : decode cX3_lay 119 = .ok (.iload_n 3, 1) := by decide +kernel
theorem dX3_lay_120 : decode cX3_lay 120 = .ok (.iload 4, 2) := by decide +kernel
theorem dX3_lay_122 : decode cX3_lay 122 = .ok (.bipush 8, 2) := by decide +kernel
theorem dX3_lay_124 : decode cX3_lay 124 = .ok (.idiv, 1) := by decide +kernel
theorem dX3_lay_125 : decode cX3_lay 125 = .ok (.iadd, 1) := by decide +kernel
theorem dX3_lay_126 : decode cX3_lay 126 = .ok (.invokevirtual 64, 3) := by decide +kernel
theorem dX3_lay_129 : decode cX3_lay 129 = .ok (.iconst 1, 1) := by decide +kernel
theorem dX3_lay_130 : decode cX3_lay 130 = .ok (.iload 4, 2) := by decide +kernel
theorem dX3_lay_132 : decode cX3_lay 132 = .ok (.bipush 8, 2) := by decide +kernel
theorem dX3_lay_134 : decode cX3_lay 134 = .ok (.irem, 1) := by decide +kernel
theorem dX3_lay_135 : decode cX3_lay 135 = .ok (.ishl, 1) := by decide +kernel
theorem dX3_lay_136 : decode cX3_lay 136 = .ok (.iconst (-1), 1) := by decide +kernel
theorem dX3_lay_137 : decode cX3_lay 137 = .ok (.ixor, 1) := by decide +kernel
theorem dX3_lay_138 : decode cX3_lay 138 = .ok (.iand, 1) := by decide +kernel
theorem dX3_lay_139 : decode cX3_lay 139 = .ok (.invokevirtual 67, 3) := by decide +kernel
theorem dX3_lay_142 : decode cX3_lay 142 = .ok (.iinc 4 1, 3) := by decide +kernel
theorem dX3_lay_145 : decode cX3_lay 145 = .ok (.goto (-51), 3) := by decide +kernel
theorem dX3_lay_148 : decode cX3_lay 148 = .ok (.iinc 2 1, 3) := by decide +kernel
theorem dX3_lay_151 : decode cX3_lay 151 = .ok (.goto (-100), 3) := by decide +kernel
theorem dX3_lay_154 : decode cX3_lay 154 = .ok (.return_, 1) := by decide +kernel
theorem dX2_groupInodes_0 : decode cX2_groupInodes 0 = .ok (.aload_n 0, 1) := by decide +kernel
theorem dX2_groupInodes_1 : decode cX2_groupInodes 1 = .ok (.getfield 21, 3) := by decide +kernel
theorem dX2_groupInodes_4 : decode cX2_groupInodes 4 = .ok (.ireturn, 1) := by decide +kernel
theorem dX2_inodes_0 : decode cX2_inodes 0 = .ok (.aload_n 0, 1) := by decide +kernel
theorem dX2_inodes_1 : decode cX2_inodes 1 = .ok (.getfield 18, 3) := by decide +kernel
theorem dX2_inodes_4 : decode cX2_inodes 4 = .ok (.aload_n 0, 1) := by decide +kernel
theorem dX2_inodes_5 : decode cX2_inodes 5 = .ok (.getfield 21, 3) := by decide +kernel
theorem dX2_inodes_8 : decode cX2_inodes 8 = .ok (.imul, 1) := by decide +kernel
theorem dX2_inodes_9 : decode cX2_inodes 9 = .ok (.ireturn, 1) := by decide +kernel
theorem dX1_put4_0 : decode cX1_put4 0 = .ok (.iload_n 1, 1) := by decide +kernel
theorem dX1_put4_1 : decode cX1_put4 1 = .ok (.ifCond .lt 61, 3) := by decide +kernel
theorem dX1_put4_4 : decode cX1_put4 4 = .ok (.iload_n 1, 1) := by decide +kernel
theorem dX1_put4_5 : decode cX1_put4 5 = .ok (.aload_n 0, 1) := by decide +kernel
theorem dX1_put4_6 : decode cX1_put4 6 = .ok (.getfield 15, 3) := by decide +kernel
theorem dX1_put4_9 : decode cX1_put4 9 = .ok (.arraylength, 1) := by decide +kernel
theorem dX1_put4_10 : decode cX1_put4 10 = .ok (.iconst 4, 1) := by decide +kernel
theorem dX1_put4_11 : decode cX1_put4 11 = .ok (.isub, 1) := by decide +kernel
theorem dX1_put4_12 : decode cX1_put4 12 = .ok (.if_icmp .gt 50, 3) := by decide +kernel
theorem dX1_put4_15 : decode cX1_put4 15 = .ok (.aload_n 0, 1) := by decide +kernel
theorem dX1_put4_16 : decode cX1_put4 16 = .ok (.getfield 15, 3) := by decide +kernel
theorem dX1_put4_19 : decode cX1_put4 19 = .ok (.iload_n 1, 1) := by decide +kernel
theorem dX1_put4_20 : decode cX1_put4 20 = .ok (.iload_n 2, 1) := by decide +kernel
theorem dX1_put4_21 : decode cX1_put4 21 = .ok (.i2b, 1) := by decide +kernel
theorem dX1_put4_22 : decode cX1_put4 22 = .ok (.bastore, 1) := by decide +kernel
theorem dX1_put4_23 : decode cX1_put4 23 = .ok (.aload_n 0, 1) := by decide +kernel
theorem dX1_put4_24 : decode cX1_put4 24 = .ok (.getfield 15, 3) := by decide +kernel
theorem dX1_put4_27 : decode cX1_put4 27 = .ok (.iload_n 1, 1) := by decide +kernel
theorem dX1_put4_28 : decode cX1_put4 28 = .ok (.iconst 1, 1) := by decide +kernel
theorem dX1_put4_29 : decode cX1_put4 29 = .ok (.iadd, 1) := by decide +kernel
theorem dX1_put4_30 : decode cX1_put4 30 = .ok (.iload_n 2, 1) := by decide +kernel
theorem dX1_put4_31 : decode cX1_put4 31 = .ok (.bipush 8, 2) := by decide +kernel
theorem dX1_put4_33 : decode cX1_put4 33 = .ok (.ishr, 1) := by decide +kernel
theorem dX1_put4_34 : decode cX1_put4 34 = .ok (.i2b, 1) := by decide +kernel
theorem dX1_put4_35 : decode cX1_put4 35 = .ok (.bastore, 1) := by decide +kernel
theorem dX1_put4_36 : decode cX1_put4 36 = .ok (.aload_n 0, 1) := by decide +kernel
theorem dX1_put4_37 : decode cX1_put4 37 = .ok (.getfield 15, 3) := by decide +kernel
theorem dX1_put4_40 : decode cX1_put4 40 = .ok (.iload_n 1, 1) := by decide +kernel
theorem dX1_put4_41 : decode cX1_put4 41 = .ok (.iconst 2, 1) := by decide +kernel
theorem dX1_put4_42 : decode cX1_put4 42 = .ok (.iadd, 1) := by decide +kernel
theorem dX1_put4_43 : decode cX1_put4 43 = .ok (.iload_n 2, 1) := by decide +kernel
theorem dX1_put4_44 : decode cX1_put4 44 = .ok (.bipush 16, 2) := by decide +kernel
theorem dX1_put4_46 : decode cX1_put4 46 = .ok (.ishr, 1) := by decide +kernel
theorem dX1_put4_47 : decode cX1_put4 47 = .ok (.i2b, 1) := by decide +kernel
theorem dX1_put4_48 : decode cX1_put4 48 = .ok (.bastore, 1) := by decide +kernel
theorem dX1_put4_49 : decode cX1_put4 49 = .ok (.aload_n 0, 1) := by decide +kernel
theorem dX1_put4_50 : decode cX1_put4 50 = .ok (.getfield 15, 3) := by decide +kernel
theorem dX1_put4_53 : decode cX1_put4 53 = .ok (.iload_n 1, 1) := by decide +kernel
theorem dX1_put4_54 : decode cX1_put4 54 = .ok (.iconst 3, 1) := by decide +kernel
theorem dX1_put4_55 : decode cX1_put4 55 = .ok (.iadd, 1) := by decide +kernel
theorem dX1_put4_56 : decode cX1_put4 56 = .ok (.iload_n 2, 1) := by decide +kernel
theorem dX1_put4_57 : decode cX1_put4 57 = .ok (.bipush 24, 2) := by decide +kernel
theorem dX1_put4_59 : decode cX1_put4 59 = .ok (.ishr, 1) := by decide +kernel
theorem dX1_put4_60 : decode cX1_put4 60 = .ok (.i2b, 1) := by decide +kernel
theorem dX1_put4_61 : decode cX1_put4 61 = .ok (.bastore, 1) := by decide +kernel
theorem dX1_put4_62 : decode cX1_put4 62 = .ok (.return_, 1) := by decide +kernel
theorem dX2_blocks_0 : decode cX2_blocks 0 = .ok (.aload_n 0, 1) := by decide +kernel
theorem dX2_blocks_1 : decode cX2_blocks 1 = .ok (.getfield 9, 3) := by decide +kernel
theorem dX2_blocks_4 : decode cX2_blocks 4 = .ok (.ireturn, 1) := by decide +kernel
theorem dX1_put2_0 : decode cX1_put2 0 = .ok (.iload_n 1, 1) := by decide +kernel
theorem dX1_put2_1 : decode cX1_put2 1 = .ok (.ifCond .lt 35, 3) := by decide +kernel
theorem dX1_put2_4 : decode cX1_put2 4 = .ok (.iload_n 1, 1) := by decide +kernel
theorem dX1_put2_5 : decode cX1_put2 5 = .ok (.aload_n 0, 1) := by decide +kernel
theorem dX1_put2_6 : decode cX1_put2 6 = .ok (.getfield 15, 3) := by decide +kernel
theorem dX1_put2_9 : decode cX1_put2 9 = .ok (.arraylength, 1) := by decide +kernel
theorem dX1_put2_10 : decode cX1_put2 10 = .ok (.iconst 2, 1) := by decide +kernel
theorem dX1_put2_11 : decode cX1_put2 11 = .ok (.isub, 1) := by decide +kernel
theorem dX1_put2_12 : decode cX1_put2 12 = .ok (.if_icmp .gt 24, 3) := by decide +kernel
theorem dX1_put2_15 : decode cX1_put2 15 = .ok (.aload_n 0, 1) := by decide +kernel
theorem dX1_put2_16 : decode cX1_put2 16 = .ok (.getfield 15, 3) := by decide +kernel
theorem dX1_put2_19 : decode cX1_put2 19 = .ok (.iload_n 1, 1) := by decide +kernel
theorem dX1_put2_20 : decode cX1_put2 20 = .ok (.iload_n 2, 1) := by decide +kernel
theorem dX1_put2_21 : decode cX1_put2 21 = .ok (.i2b, 1) := by decide +kernel
theorem dX1_put2_22 : decode cX1_put2 22 = .ok (.bastore, 1) := by decide +kernel
theorem dX1_put2_23 : decode cX1_put2 23 = .ok (.aload_n 0, 1) := by decide +kernel
theorem dX1_put2_24 : decode cX1_put2 24 = .ok (.getfield 15, 3) := by decide +kernel
theorem dX1_put2_27 : decode cX1_put2 27 = .ok (.iload_n 1, 1) := by decide +kernel
theorem dX1_put2_28 : decode cX1_put2 28 = .ok (.iconst 1, 1) := by decide +kernel
theorem dX1_put2_29 : decode cX1_put2 29 = .ok (.iadd, 1) := by decide +kernel
theorem dX1_put2_30 : decode cX1_put2 30 = .ok (.iload_n 2, 1) := by decide +kernel
theorem dX1_put2_31 : decode cX1_put2 31 = .ok (.bipush 8, 2) := by decide +kernel
theorem dX1_put2_33 : decode cX1_put2 33 = .ok (.ishr, 1) := by decide +kernel
theorem dX1_put2_34 : decode cX1_put2 34 = .ok (.i2b, 1) := by decide +kernel
theorem dX1_put2_35 : decode cX1_put2 35 = .ok (.bastore, 1) := by decide +kernel
theorem dX1_put2_36 : decode cX1_put2 36 = .ok (.return_, 1) := by decide +kernel
theorem dJ11_bitCount_0 : decode cJ11_bitCount 0 = .ok (.iload_n 0, 1) := by decide +kernel
theorem dJ11_bitCount_1 : decode cJ11_bitCount 1 = .ok (.iload_n 0, 1) := by decide +kernel
theorem dJ11_bitCount_2 : decode cJ11_bitCount 2 = .ok (.iconst 1, 1) := by decide +kernel
theorem dJ11_bitCount_3 : decode cJ11_bitCount 3 = .ok (.iushr, 1) := by decide +kernel
theorem dJ11_bitCount_4 : decode cJ11_bitCount 4 = .ok (.ldc_w 265, 3) := by decide +kernel
theorem dJ11_bitCount_7 : decode cJ11_bitCount 7 = .ok (.iand, 1) := by decide +kernel
theorem dJ11_bitCount_8 : decode cJ11_bitCount 8 = .ok (.isub, 1) := by decide +kernel
theorem dJ11_bitCount_9 : decode cJ11_bitCount 9 = .ok (.istore_n 0, 1) := by decide +kernel
theorem dJ11_bitCount_10 : decode cJ11_bitCount 10 = .ok (.iload_n 0, 1) := by decide +kernel
theorem dJ11_bitCount_11 : decode cJ11_bitCount 11 = .ok (.ldc_w 266, 3) := by decide +kernel
theorem dJ11_bitCount_14 : decode cJ11_bitCount 14 = .ok (.iand, 1) := by decide +kernel
theorem dJ11_bitCount_15 : decode cJ11_bitCount 15 = .ok (.iload_n 0, 1) := by decide +kernel
theorem dJ11_bitCount_16 : decode cJ11_bitCount 16 = .ok (.iconst 2, 1) := by decide +kernel
theorem dJ11_bitCount_17 : decode cJ11_bitCount 17 = .ok (.iushr, 1) := by decide +kernel
theorem dJ11_bitCount_18 : decode cJ11_bitCount 18 = .ok (.ldc_w 266, 3) := by decide +kernel
theorem dJ11_bitCount_21 : decode cJ11_bitCount 21 = .ok (.iand, 1) := by decide +kernel
theorem dJ11_bitCount_22 : decode cJ11_bitCount 22 = .ok (.iadd, 1) := by decide +kernel
theorem dJ11_bitCount_23 : decode cJ11_bitCount 23 = .ok (.istore_n 0, 1) := by decide +kernel
theorem dJ11_bitCount_24 : decode cJ11_bitCount 24 = .ok (.iload_n 0, 1) := by decide +kernel
theorem dJ11_bitCount_25 : decode cJ11_bitCount 25 = .ok (.iload_n 0, 1) := by decide +kernel
theorem dJ11_bitCount_26 : decode cJ11_bitCount 26 = .ok (.iconst 4, 1) := by decide +kernel
theorem dJ11_bitCount_27 : decode cJ11_bitCount 27 = .ok (.iushr, 1) := by decide +kernel
theorem dJ11_bitCount_28 : decode cJ11_bitCount 28 = .ok (.iadd, 1) := by decide +kernel
theorem dJ11_bitCount_29 : decode cJ11_bitCount 29 = .ok (.ldc_w 267, 3) := by decide +kernel
theorem dJ11_bitCount_32 : decode cJ11_bitCount 32 = .ok (.iand, 1) := by decide +kernel
theorem dJ11_bitCount_33 : decode cJ11_bitCount 33 = .ok (.istore_n 0, 1) := by decide +kernel
theorem dJ11_bitCount_34 : decode cJ11_bitCount 34 = .ok (.iload_n 0, 1) := by decide +kernel
theorem dJ11_bitCount_35 : decode cJ11_bitCount 35 = .ok (.iload_n 0, 1) := by decide +kernel
theorem dJ11_bitCount_36 : decode cJ11_bitCount 36 = .ok (.bipush 8, 2) := by decide +kernel
theorem dJ11_bitCount_38 : decode cJ11_bitCount 38 = .ok (.iushr, 1) := by decide +kernel
theorem dJ11_bitCount_39 : decode cJ11_bitCount 39 = .ok (.iadd, 1) := by decide +kernel
theorem dJ11_bitCount_40 : decode cJ11_bitCount 40 = .ok (.istore_n 0, 1) := by decide +kernel
theorem dJ11_bitCount_41 : decode cJ11_bitCount 41 = .ok (.iload_n 0, 1) := by decide +kernel
theorem dJ11_bitCount_42 : decode cJ11_bitCount 42 = .ok (.iload_n 0, 1) := by decide +kernel
theorem dJ11_bitCount_43 : decode cJ11_bitCount 43 = .ok (.bipush 16, 2) := by decide +kernel
theorem dJ11_bitCount_45 : decode cJ11_bitCount 45 = .ok (.iushr, 1) := by decide +kernel
theorem dJ11_bitCount_46 : decode cJ11_bitCount 46 = .ok (.iadd, 1) := by decide +kernel
theorem dJ11_bitCount_47 : decode cJ11_bitCount 47 = .ok (.istore_n 0, 1) := by decide +kernel
theorem dJ11_bitCount_48 : decode cJ11_bitCount 48 = .ok (.iload_n 0, 1) := by decide +kernel
theorem dJ11_bitCount_49 : decode cJ11_bitCount 49 = .ok (.bipush 63, 2) := by decide +kernel
theorem dJ11_bitCount_51 : decode cJ11_bitCount 51 = .ok (.iand, 1) := by decide +kernel
theorem dJ11_bitCount_52 : decode cJ11_bitCount 52 = .ok (.ireturn, 1) := by decide +kernel
theorem dX3_freeIn_0 : decode cX3_freeIn 0 = .ok (.aload_n 0, 1) := by decide +kernel
theorem dX3_freeIn_1 : decode cX3_freeIn 1 = .ok (.getfield 15, 3) := by decide +kernel
theorem dX3_freeIn_4 : decode cX3_freeIn 4 = .ok (.iload_n 1, 1) := by decide +kernel
theorem dX3_freeIn_5 : decode cX3_freeIn 5 = .ok (.aload_n 0, 1) := by decide +kernel
theorem dX3_freeIn_6 : decode cX3_freeIn 6 = .ok (.getfield 19, 3) := by decide +kernel
theorem dX3_freeIn_9 : decode cX3_freeIn 9 = .ok (.invokevirtual 51, 3) := by decide +kernel
theorem dX3_freeIn_12 : decode cX3_freeIn 12 = .ok (.istore_n 2, 1) := by decide +kernel
theorem dX3_freeIn_13 : decode cX3_freeIn 13 = .ok (.iconst 0, 1) := by decide +kernel
theorem dX3_freeIn_14 : decode cX3_freeIn 14 = .ok (.istore_n 3, 1) := by decide +kernel
theorem dX3_freeIn_15 : decode cX3_freeIn 15 = .ok (.iconst 0, 1) := by decide +kernel
theorem dX3_freeIn_16 : decode cX3_freeIn 16 = .ok (.istore 4, 2) := by decide +kernel
theorem dX3_freeIn_18 : decode cX3_freeIn 18 = .ok (.iload 4, 2) := by decide +kernel
theorem dX3_freeIn_20 : decode cX3_freeIn 20 = .ok (.aload_n 0, 1) := by decide +kernel
theorem dX3_freeIn_21 : decode cX3_freeIn 21 = .ok (.getfield 42, 3) := by decide +kernel
theorem dX3_freeIn_24 : decode cX3_freeIn 24 = .ok (.bipush 8, 2) := by decide +kernel
theorem dX3_freeIn_26 : decode cX3_freeIn 26 = .ok (.idiv, 1) := by decide +kernel
theorem dX3_freeIn_27 : decode cX3_freeIn 27 = .ok (.if_icmp .ge 29, 3) := by decide +kernel
theorem dX3_freeIn_30 : decode cX3_freeIn 30 = .ok (.iload_n 3, 1) := by decide +kernel
theorem dX3_freeIn_31 : decode cX3_freeIn 31 = .ok (.bipush 8, 2) := by decide +kernel
theorem dX3_freeIn_33 : decode cX3_freeIn 33 = .ok (.aload_n 0, 1) := by decide +kernel
theorem dX3_freeIn_34 : decode cX3_freeIn 34 = .ok (.getfield 9, 3) := by decide +kernel
theorem dX3_freeIn_37 : decode cX3_freeIn 37 = .ok (.iload_n 2, 1) := by decide +kernel
theorem dX3_freeIn_38 : decode cX3_freeIn 38 = .ok (.iload 4, 2) := by decide +kernel
theorem dX3_freeIn_40 : decode cX3_freeIn 40 = .ok (.iadd, 1) := by decide +kernel
theorem dX3_freeIn_41 : decode cX3_freeIn 41 = .ok (.invokevirtual 64, 3) := by decide +kernel
theorem dX3_freeIn_44 : decode cX3_freeIn 44 = .ok (.invokestatic 74, 3) := by decide +kernel
theorem dX3_freeIn_47 : decode cX3_freeIn 47 = .ok (.isub, 1) := by decide +kernel
theorem dX3_freeIn_48 : decode cX3_freeIn 48 = .ok (.iadd, 1) := by decide +kernel
theorem dX3_freeIn_49 : decode cX3_freeIn 49 = .ok (.istore_n 3, 1) := by decide +kernel
theorem dX3_freeIn_50 : decode cX3_freeIn 50 = .ok (.iinc 4 1, 3) := by decide +kernel
theorem dX3_freeIn_53 : decode cX3_freeIn 53 = .ok (.goto (-35), 3) := by decide +kernel
theorem dX3_freeIn_56 : decode cX3_freeIn 56 = .ok (.iload_n 3, 1) := by decide +kernel
theorem dX3_freeIn_57 : decode cX3_freeIn 57 = .ok (.ireturn, 1) := by decide +kernel
theorem dX1_get2_0 : decode cX1_get2 0 = .ok (.iload_n 1, 1) := by decide +kernel
theorem dX1_get2_1 : decode cX1_get2 1 = .ok (.ifCond .lt 14, 3) := by decide +kernel
theorem dX1_get2_4 : decode cX1_get2 4 = .ok (.iload_n 1, 1) := by decide +kernel
theorem dX1_get2_5 : decode cX1_get2 5 = .ok (.aload_n 0, 1) := by decide +kernel
theorem dX1_get2_6 : decode cX1_get2 6 = .ok (.getfield 15, 3) := by decide +kernel
theorem dX1_get2_9 : decode cX1_get2 9 = .ok (.arraylength, 1) := by decide +kernel
theorem dX1_get2_10 : decode cX1_get2 10 = .ok (.iconst 2, 1) := by decide +kernel
theorem dX1_get2_11 : decode cX1_get2 11 = .ok (.isub, 1) := by decide +kernel
theorem dX1_get2_12 : decode cX1_get2 12 = .ok (.if_icmp .le 5, 3) := by decide +kernel
theorem dX1_get2_15 : decode cX1_get2 15 = .ok (.iconst 0, 1) := by decide +kernel
theorem dX1_get2_16 : decode cX1_get2 16 = .ok (.ireturn, 1) := by decide +kernel
theorem dX1_get2_17 : decode cX1_get2 17 = .ok (.aload_n 0, 1) := by decide +kernel
theorem dX1_get2_18 : decode cX1_get2 18 = .ok (.getfield 15, 3) := by decide +kernel
theorem dX1_get2_21 : decode cX1_get2 21 = .ok (.iload_n 1, 1) := by decide +kernel
theorem dX1_get2_22 : decode cX1_get2 22 = .ok (.baload, 1) := by decide +kernel
theorem dX1_get2_23 : decode cX1_get2 23 = .ok (.sipush 255, 3) := by decide +kernel
theorem dX1_get2_26 : decode cX1_get2 26 = .ok (.iand, 1) := by decide +kernel
theorem dX1_get2_27 : decode cX1_get2 27 = .ok (.aload_n 0, 1) := by decide +kernel
theorem dX1_get2_28 : decode cX1_get2 28 = .ok (.getfield 15, 3) := by decide +kernel
theorem dX1_get2_31 : decode cX1_get2 31 = .ok (.iload_n 1, 1) := by decide +kernel
theorem dX1_get2_32 : decode cX1_get2 32 = .ok (.iconst 1, 1) := by decide +kernel
theorem dX1_get2_33 : decode cX1_get2 33 = .ok (.iadd, 1) := by decide +kernel
theorem dX1_get2_34 : decode cX1_get2 34 = .ok (.baload, 1) := by decide +kernel
theorem dX1_get2_35 : decode cX1_get2 35 = .ok (.sipush 255, 3) := by decide +kernel
theorem dX1_get2_38 : decode cX1_get2 38 = .ok (.iand, 1) := by decide +kernel
theorem dX1_get2_39 : decode cX1_get2 39 = .ok (.bipush 8, 2) := by decide +kernel
theorem dX1_get2_41 : decode cX1_get2 41 = .ok (.ishl, 1) := by decide +kernel
theorem dX1_get2_42 : decode cX1_get2 42 = .ok (.ior, 1) := by decide +kernel
theorem dX1_get2_43 : decode cX1_get2 43 = .ok (.ireturn, 1) := by decide +kernel
theorem dX4_directoriesIn_0 : decode cX4_directoriesIn 0 = .ok (.iconst 0, 1) := by decide +kernel
theorem dX4_directoriesIn_1 : decode cX4_directoriesIn 1 = .ok (.istore_n 2, 1) := by decide +kernel
theorem dX4_directoriesIn_2 : decode cX4_directoriesIn 2 = .ok (.aload_n 0, 1) := by decide +kernel
theorem dX4_directoriesIn_3 : decode cX4_directoriesIn 3 = .ok (.getfield 15, 3) := by decide +kernel
theorem dX4_directoriesIn_6 : decode cX4_directoriesIn 6 = .ok (.iload_n 1, 1) := by decide +kernel
theorem dX4_directoriesIn_7 : decode cX4_directoriesIn 7 = .ok (.iconst 4, 1) := by decide +kernel
theorem dX4_directoriesIn_8 : decode cX4_directoriesIn 8 = .ok (.invokevirtual 46, 3) := by decide +kernel
theorem dX4_directoriesIn_11 : decode cX4_directoriesIn 11 = .ok (.istore_n 3, 1) := by decide +kernel
theorem dX4_directoriesIn_12 : decode cX4_directoriesIn 12 = .ok (.iconst 0, 1) := by decide +kernel
theorem dX4_directoriesIn_13 : decode cX4_directoriesIn 13 = .ok (.istore 4, 2) := by decide +kernel
theorem dX4_directoriesIn_15 : decode cX4_directoriesIn 15 = .ok (.iload 4, 2) := by decide +kernel
theorem dX4_directoriesIn_17 : decode cX4_directoriesIn 17 = .ok (.aload_n 0, 1) := by decide +kernel
theorem dX4_directoriesIn_18 : decode cX4_directoriesIn 18 = .ok (.getfield 15, 3) := by decide +kernel
theorem dX4_directoriesIn_21 : decode cX4_directoriesIn 21 = .ok (.invokevirtual 50, 3) := by decide +kernel
theorem dX4_directoriesIn_24 : decode cX4_directoriesIn 24 = .ok (.if_icmp .ge 33, 3) := by decide +kernel
theorem dX4_directoriesIn_27 : decode cX4_directoriesIn 27 = .ok (.aload_n 0, 1) := by decide +kernel
theorem dX4_directoriesIn_28 : decode cX4_directoriesIn 28 = .ok (.getfield 9, 3) := by decide +kernel
theorem dX4_directoriesIn_31 : decode cX4_directoriesIn 31 = .ok (.iload_n 3, 1) := by decide +kernel
theorem dX4_directoriesIn_32 : decode cX4_directoriesIn 32 = .ok (.iload 4, 2) := by decide +kernel
theorem dX4_directoriesIn_34 : decode cX4_directoriesIn 34 = .ok (.sipush 128, 3) := by decide +kernel
theorem dX4_directoriesIn_37 : decode cX4_directoriesIn 37 = .ok (.imul, 1) := by decide +kernel
theorem dX4_directoriesIn_38 : decode cX4_directoriesIn 38 = .ok (.iadd, 1) := by decide +kernel
theorem dX4_directoriesIn_39 : decode cX4_directoriesIn 39 = .ok (.invokevirtual 29, 3) := by decide +kernel
theorem dX4_directoriesIn_42 : decode cX4_directoriesIn 42 = .ok (.sipush 16877, 3) := by decide +kernel
theorem dX4_directoriesIn_45 : decode cX4_directoriesIn 45 = .ok (.if_icmp .ne 6, 3) := by decide +kernel
theorem dX4_directoriesIn_48 : decode cX4_directoriesIn 48 = .ok (.iinc 2 1, 3) := by decide +kernel
theorem dX4_directoriesIn_51 : decode cX4_directoriesIn 51 = .ok (.iinc 4 1, 3) := by decide +kernel
theorem dX4_directoriesIn_54 : decode cX4_directoriesIn 54 = .ok (.goto (-39), 3) := by decide +kernel
theorem dX4_directoriesIn_57 : decode cX4_directoriesIn 57 = .ok (.iload_n 2, 1) := by decide +kernel
theorem dX4_directoriesIn_58 : decode cX4_directoriesIn 58 = .ok (.ireturn, 1) := by decide +kernel
theorem dX6_describe_0 : decode cX6_describe 0 = .ok (.aload_n 0, 1) := by decide +kernel
theorem dX6_describe_1 : decode cX6_describe 1 = .ok (.getfield 9, 3) := by decide +kernel
theorem dX6_describe_4 : decode cX6_describe 4 = .ok (.iload_n 3, 1) := by decide +kernel
theorem dX6_describe_5 : decode cX6_describe 5 = .ok (.invokevirtual 75, 3) := by decide +kernel
theorem dX6_describe_8 : decode cX6_describe 8 = .ok (.istore 4, 2) := by decide +kernel
theorem dX6_describe_10 : decode cX6_describe 10 = .ok (.aload_n 1, 1) := by decide +kernel
theorem dX6_describe_11 : decode cX6_describe 11 = .ok (.iload_n 2, 1) := by decide +kernel
theorem dX6_describe_12 : decode cX6_describe 12 = .ok (.iload 4, 2) := by decide +kernel
theorem dX6_describe_14 : decode cX6_describe 14 = .ok (.iconst 2, 1) := by decide +kernel
theorem dX6_describe_15 : decode cX6_describe 15 = .ok (.iadd, 1) := by decide +kernel
theorem dX6_describe_16 : decode cX6_describe 16 = .ok (.invokevirtual 61, 3) := by decide +kernel
theorem dX6_describe_19 : decode cX6_describe 19 = .ok (.aload_n 1, 1) := by decide +kernel
theorem dX6_describe_20 : decode cX6_describe 20 = .ok (.iload_n 2, 1) := by decide +kernel
theorem dX6_describe_21 : decode cX6_describe 21 = .ok (.iconst 4, 1) := by decide +kernel
theorem dX6_describe_22 : decode cX6_describe 22 = .ok (.iadd, 1) := by decide +kernel
theorem dX6_describe_23 : decode cX6_describe 23 = .ok (.iload 4, 2) := by decide +kernel
theorem dX6_describe_25 : decode cX6_describe 25 = .ok (.iconst 3, 1) := by decide +kernel
theorem dX6_describe_26 : decode cX6_describe 26 = .ok (.iadd, 1) := by decide +kernel
theorem dX6_describe_27 : decode cX6_describe 27 = .ok (.invokevirtual 61, 3) := by decide +kernel
theorem dX6_describe_30 : decode cX6_describe 30 = .ok (.aload_n 1, 1) := by decide +kernel
theorem dX6_describe_31 : decode cX6_describe 31 = .ok (.iload_n 2, 1) := by decide +kernel
theorem dX6_describe_32 : decode cX6_describe 32 = .ok (.bipush 8, 2) := by decide +kernel
theorem dX6_describe_34 : decode cX6_describe 34 = .ok (.iadd, 1) := by decide +kernel
theorem dX6_describe_35 : decode cX6_describe 35 = .ok (.iload 4, 2) := by decide +kernel
theorem dX6_describe_37 : decode cX6_describe 37 = .ok (.iconst 4, 1) := by decide +kernel
theorem dX6_describe_38 : decode cX6_describe 38 = .ok (.iadd, 1) := by decide +kernel
theorem dX6_describe_39 : decode cX6_describe 39 = .ok (.invokevirtual 61, 3) := by decide +kernel
theorem dX6_describe_42 : decode cX6_describe 42 = .ok (.aload_n 1, 1) := by decide +kernel
theorem dX6_describe_43 : decode cX6_describe 43 = .ok (.iload_n 2, 1) := by decide +kernel
theorem dX6_describe_44 : decode cX6_describe 44 = .ok (.bipush 12, 2) := by decide +kernel
theorem dX6_describe_46 : decode cX6_describe 46 = .ok (.iadd, 1) := by decide +kernel
theorem dX6_describe_47 : decode cX6_describe 47 = .ok (.aload_n 0, 1) := by decide +kernel
theorem dX6_describe_48 : decode cX6_describe 48 = .ok (.getfield 15, 3) := by decide +kernel
theorem dX6_describe_51 : decode cX6_describe 51 = .ok (.iload_n 3, 1) := by decide +kernel
theorem dX6_describe_52 : decode cX6_describe 52 = .ok (.invokevirtual 50, 3) := by decide +kernel
theorem dX6_describe_55 : decode cX6_describe 55 = .ok (.invokevirtual 46, 3) := by decide +kernel
theorem dX6_describe_58 : decode cX6_describe 58 = .ok (.aload_n 1, 1) := by decide +kernel
theorem dX6_describe_59 : decode cX6_describe 59 = .ok (.iload_n 2, 1) := by decide +kernel
theorem dX6_describe_60 : decode cX6_describe 60 = .ok (.bipush 14, 2) := by decide +kernel
theorem dX6_describe_62 : decode cX6_describe 62 = .ok (.iadd, 1) := by decide +kernel
theorem dX6_describe_63 : decode cX6_describe 63 = .ok (.aload_n 0, 1) := by decide +kernel
theorem dX6_describe_64 : decode cX6_describe 64 = .ok (.getfield 19, 3) := by decide +kernel
theorem dX6_describe_67 : decode cX6_describe 67 = .ok (.iload_n 3, 1) := by decide +kernel
theorem dX6_describe_68 : decode cX6_describe 68 = .ok (.invokevirtual 50, 3) := by decide +kernel
theorem dX6_describe_71 : decode cX6_describe 71 = .ok (.invokevirtual 46, 3) := by decide +kernel
theorem dX6_describe_74 : decode cX6_describe 74 = .ok (.aload_n 1, 1) := by decide +kernel
theorem dX6_describe_75 : decode cX6_describe 75 = .ok (.iload_n 2, 1) := by decide +kernel
theorem dX6_describe_76 : decode cX6_describe 76 = .ok (.bipush 16, 2) := by decide +kernel
theorem dX6_describe_78 : decode cX6_describe 78 = .ok (.iadd, 1) := by decide +kernel
theorem dX6_describe_79 : decode cX6_describe 79 = .ok (.aload_n 0, 1) := by decide +kernel
theorem dX6_describe_80 : decode cX6_describe 80 = .ok (.getfield 22, 3) := by decide +kernel
theorem dX6_describe_83 : decode cX6_describe 83 = .ok (.iload_n 3, 1) := by decide +kernel
theorem dX6_describe_84 : decode cX6_describe 84 = .ok (.invokevirtual 78, 3) := by decide +kernel
theorem dX6_describe_87 : decode cX6_describe 87 = .ok (.invokevirtual 46, 3) := by decide +kernel
theorem dX6_describe_90 : decode cX6_describe 90 = .ok (.return_, 1) := by decide +kernel
theorem dX6_sketch_0 : decode cX6_sketch 0 = .ok (.iconst 0, 1) := by decide +kernel
theorem dX6_sketch_1 : decode cX6_sketch 1 = .ok (.istore 4, 2) := by decide +kernel
theorem dX6_sketch_3 : decode cX6_sketch 3 = .ok (.iconst 0, 1) := by decide +kernel
theorem dX6_sketch_4 : decode cX6_sketch 4 = .ok (.istore 5, 2) := by decide +kernel
theorem dX6_sketch_6 : decode cX6_sketch 6 = .ok (.iconst 0, 1) := by decide +kernel
theorem dX6_sketch_7 : decode cX6_sketch 7 = .ok (.istore 6, 2) := by decide +kernel
theorem dX6_sketch_9 : decode cX6_sketch 9 = .ok (.iload 6, 2) := by decide +kernel
theorem dX6_sketch_11 : decode cX6_sketch 11 = .ok (.aload_n 0, 1) := by decide +kernel
theorem dX6_sketch_12 : decode cX6_sketch 12 = .ok (.getfield 9, 3) := by decide +kernel
theorem dX6_sketch_15 : decode cX6_sketch 15 = .ok (.invokevirtual 30, 3) := by decide +kernel
theorem dX6_sketch_18 : decode cX6_sketch 18 = .ok (.if_icmp .ge 55, 3) := by decide +kernel
theorem dX6_sketch_21 : decode cX6_sketch 21 = .ok (.iload 4, 2) := by decide +kernel
theorem dX6_sketch_23 : decode cX6_sketch 23 = .ok (.aload_n 0, 1) := by decide +kernel
theorem dX6_sketch_24 : decode cX6_sketch 24 = .ok (.getfield 15, 3) := by decide +kernel
theorem dX6_sketch_27 : decode cX6_sketch 27 = .ok (.iload 6, 2) := by decide +kernel
theorem dX6_sketch_29 : decode cX6_sketch 29 = .ok (.invokevirtual 50, 3) := by decide +kernel
theorem dX6_sketch_32 : decode cX6_sketch 32 = .ok (.iadd, 1) := by decide +kernel
theorem dX6_sketch_33 : decode cX6_sketch 33 = .ok (.istore 4, 2) := by decide +kernel
theorem dX6_sketch_35 : decode cX6_sketch 35 = .ok (.iload 5, 2) := by decide +kernel
theorem dX6_sketch_37 : decode cX6_sketch 37 = .ok (.aload_n 0, 1) := by decide +kernel
theorem dX6_sketch_38 : decode cX6_sketch 38 = .ok (.getfield 19, 3) := by decide +kernel
theorem dX6_sketch_41 : decode cX6_sketch 41 = .ok (.iload 6, 2) := by decide +kernel
theorem dX6_sketch_43 : decode cX6_sketch 43 = .ok (.invokevirtual 50, 3) := by decide +kernel
theorem dX6_sketch_46 : decode cX6_sketch 46 = .ok (.iadd, 1) := by decide +kernel
theorem dX6_sketch_47 : decode cX6_sketch 47 = .ok (.istore 5, 2) := by decide +kernel
theorem dX6_sketch_49 : decode cX6_sketch 49 = .ok (.aload_n 0, 1) := by decide +kernel
theorem dX6_sketch_50 : decode cX6_sketch 50 = .ok (.aload_n 1, 1) := by decide +kernel
theorem dX6_sketch_51 : decode cX6_sketch 51 = .ok (.iload_n 2, 1) := by decide +kernel
theorem dX6_sketch_52 : decode cX6_sketch 52 = .ok (.sipush 1024, 3) := by decide +kernel
theorem dX6_sketch_55 : decode cX6_sketch 55 = .ok (.iadd, 1) := by decide +kernel
theorem dX6_sketch_56 : decode cX6_sketch 56 = .ok (.bipush 32, 2) := by decide +kernel
theorem dX6_sketch_58 : decode cX6_sketch 58 = .ok (.iload 6, 2) := by decide +kernel
theorem dX6_sketch_60 : decode cX6_sketch 60 = .ok (.imul, 1) := by decide +kernel
theorem dX6_sketch_61 : decode cX6_sketch 61 = .ok (.iadd, 1) := by decide +kernel
theorem dX6_sketch_62 : decode cX6_sketch 62 = .ok (.iload 6, 2) := by decide +kernel
theorem dX6_sketch_64 : decode cX6_sketch 64 = .ok (.invokevirtual 56, 3) := by decide +kernel
theorem dX6_sketch_67 : decode cX6_sketch 67 = .ok (.iinc 6 1, 3) := by decide +kernel
theorem dX6_sketch_70 : decode cX6_sketch 70 = .ok (.goto (-61), 3) := by decide +kernel
theorem dX6_sketch_73 : decode cX6_sketch 73 = .ok (.aload_n 1, 1) := by decide +kernel
theorem dX6_sketch_74 : decode cX6_sketch 74 = .ok (.iload_n 2, 1) := by decide +kernel
theorem dX6_sketch_75 : decode cX6_sketch 75 = .ok (.aload_n 0, 1) := by decide +kernel
theorem dX6_sketch_76 : decode cX6_sketch 76 = .ok (.getfield 9, 3) := by decide +kernel
theorem dX6_sketch_79 : decode cX6_sketch 79 = .ok (.invokevirtual 59, 3) := by decide +kernel
theorem dX6_sketch_82 : decode cX6_sketch 82 = .ok (.invokevirtual 61, 3) := by decide +kernel
theorem dX6_sketch_85 : decode cX6_sketch 85 = .ok (.aload_n 1, 1) := by decide +kernel
theorem dX6_sketch_86 : decode cX6_sketch 86 = .ok (.iload_n 2, 1) := by decide +kernel
theorem dX6_sketch_87 : decode cX6_sketch 87 = .ok (.iconst 4, 1) := by decide +kernel
theorem dX6_sketch_88 : decode cX6_sketch 88 = .ok (.iadd, 1) := by decide +kernel
theorem dX6_sketch_89 : decode cX6_sketch 89 = .ok (.aload_n 0, 1) := by decide +kernel
theorem dX6_sketch_90 : decode cX6_sketch 90 = .ok (.getfield 9, 3) := by decide +kernel
theorem dX6_sketch_93 : decode cX6_sketch 93 = .ok (.invokevirtual 64, 3) := by decide +kernel
theorem dX6_sketch_96 : decode cX6_sketch 96 = .ok (.invokevirtual 61, 3) := by decide +kernel
theorem dX6_sketch_99 : decode cX6_sketch 99 = .ok (.aload_n 1, 1) := by decide +kernel
theorem dX6_sketch_100 : decode cX6_sketch 100 = .ok (.iload_n 2, 1) := by decide +kernel
theorem dX6_sketch_101 : decode cX6_sketch 101 = .ok (.bipush 12, 2) := by decide +kernel
theorem dX6_sketch_103 : decode cX6_sketch 103 = .ok (.iadd, 1) := by decide +kernel
theorem dX6_sketch_104 : decode cX6_sketch 104 = .ok (.iload 4, 2) := by decide +kernel
theorem dX6_sketch_106 : decode cX6_sketch 106 = .ok (.invokevirtual 61, 3) := by decide +kernel
theorem dX6_sketch_109 : decode cX6_sketch 109 = .ok (.aload_n 1, 1) := by decide +kernel
theorem dX6_sketch_110 : decode cX6_sketch 110 = .ok (.iload_n 2, 1) := by decide +kernel
theorem dX6_sketch_111 : decode cX6_sketch 111 = .ok (.bipush 16, 2) := by decide +kernel
theorem dX6_sketch_113 : decode cX6_sketch 113 = .ok (.iadd, 1) := by decide +kernel
theorem dX6_sketch_114 : decode cX6_sketch 114 = .ok (.iload 5, 2) := by decide +kernel
theorem dX6_sketch_116 : decode cX6_sketch 116 = .ok (.invokevirtual 61, 3) := by decide +kernel
theorem dX6_sketch_119 : decode cX6_sketch 119 = .ok (.aload_n 1, 1) := by decide +kernel
theorem dX6_sketch_120 : decode cX6_sketch 120 = .ok (.iload_n 2, 1) := by decide +kernel
theorem dX6_sketch_121 : decode cX6_sketch 121 = .ok (.bipush 20, 2) := by decide +kernel
theorem dX6_sketch_123 : decode cX6_sketch 123 = .ok (.iadd, 1) := by decide +kernel
theorem dX6_sketch_124 : decode cX6_sketch 124 = .ok (.iconst 1, 1) := by decide +kernel
theorem dX6_sketch_125 : decode cX6_sketch 125 = .ok (.invokevirtual 61, 3) := by decide +kernel
theorem dX6_sketch_128 : decode cX6_sketch 128 = .ok (.aload_n 1, 1) := by decide +kernel
theorem dX6_sketch_129 : decode cX6_sketch 129 = .ok (.iload_n 2, 1) := by decide +kernel
theorem dX6_sketch_130 : decode cX6_sketch 130 = .ok (.bipush 32, 2) := by decide +kernel
theorem dX6_sketch_132 : decode cX6_sketch 132 = .ok (.iadd, 1) := by decide +kernel
theorem dX6_sketch_133 : decode cX6_sketch 133 = .ok (.aload_n 0, 1) := by decide +kernel
theorem dX6_sketch_134 : decode cX6_sketch 134 = .ok (.getfield 9, 3) := by decide +kernel
theorem dX6_sketch_137 : decode cX6_sketch 137 = .ok (.invokevirtual 67, 3) := by decide +kernel
theorem dX6_sketch_140 : decode cX6_sketch 140 = .ok (.invokevirtual 61, 3) := by decide +kernel
theorem dX6_sketch_143 : decode cX6_sketch 143 = .ok (.aload_n 1, 1) := by decide +kernel
theorem dX6_sketch_144 : decode cX6_sketch 144 = .ok (.iload_n 2, 1) := by decide +kernel
theorem dX6_sketch_145 : decode cX6_sketch 145 = .ok (.bipush 36, 2) := by decide +kernel
theorem dX6_sketch_147 : decode cX6_sketch 147 = .ok (.iadd, 1) := by decide +kernel
theorem dX6_sketch_148 : decode cX6_sketch 148 = .ok (.aload_n 0, 1) := by decide +kernel
theorem dX6_sketch_149 : decode cX6_sketch 149 = .ok (.getfield 9, 3) := by decide +kernel
theorem dX6_sketch_152 : decode cX6_sketch 152 = .ok (.invokevirtual 67, 3) := by decide +kernel
theorem dX6_sketch_155 : decode cX6_sketch 155 = .ok (.invokevirtual 61, 3) := by decide +kernel
theorem dX6_sketch_158 : decode cX6_sketch 158 = .ok (.aload_n 1, 1) := by decide +kernel
theorem dX6_sketch_159 : decode cX6_sketch 159 = .ok (.iload_n 2, 1) := by decide +kernel
theorem dX6_sketch_160 : decode cX6_sketch 160 = .ok (.bipush 40, 2) := by decide +kernel
theorem dX6_sketch_162 : decode cX6_sketch 162 = .ok (.iadd, 1) := by decide +kernel
theorem dX6_sketch_163 : decode cX6_sketch 163 = .ok (.aload_n 0, 1) := by decide +kernel
theorem dX6_sketch_164 : decode cX6_sketch 164 = .ok (.getfield 9, 3) := by decide +kernel
theorem dX6_sketch_167 : decode cX6_sketch 167 = .ok (.invokevirtual 70, 3) := by decide +kernel
theorem dX6_sketch_170 : decode cX6_sketch 170 = .ok (.invokevirtual 61, 3) := by decide +kernel
theorem dX6_sketch_173 : decode cX6_sketch 173 = .ok (.aload_n 1, 1) := by decide +kernel
theorem dX6_sketch_174 : decode cX6_sketch 174 = .ok (.iload_n 2, 1) := by decide +kernel
theorem dX6_sketch_175 : decode cX6_sketch 175 = .ok (.bipush 54, 2) := by decide +kernel
theorem dX6_sketch_177 : decode cX6_sketch 177 = .ok (.iadd, 1) := by decide +kernel
theorem dX6_sketch_178 : decode cX6_sketch 178 = .ok (.ldc 73, 2) := by decide +kernel
theorem dX6_sketch_180 : decode cX6_sketch 180 = .ok (.invokevirtual 46, 3) := by decide +kernel
theorem dX6_sketch_183 : decode cX6_sketch 183 = .ok (.aload_n 1, 1) := by decide +kernel
theorem dX6_sketch_184 : decode cX6_sketch 184 = .ok (.iload_n 2, 1) := by decide +kernel
theorem dX6_sketch_185 : decode cX6_sketch 185 = .ok (.bipush 56, 2) := by decide +kernel
theorem dX6_sketch_187 : decode cX6_sketch 187 = .ok (.iadd, 1) := by decide +kernel
theorem dX6_sketch_188 : decode cX6_sketch 188 = .ok (.ldc 74, 2) := by decide +kernel
theorem dX6_sketch_190 : decode cX6_sketch 190 = .ok (.invokevirtual 46, 3) := by decide +kernel
theorem dX6_sketch_193 : decode cX6_sketch 193 = .ok (.aload_n 1, 1) := by decide +kernel
theorem dX6_sketch_194 : decode cX6_sketch 194 = .ok (.iload_n 2, 1) := by decide +kernel
theorem dX6_sketch_195 : decode cX6_sketch 195 = .ok (.bipush 58, 2) := by decide +kernel
theorem dX6_sketch_197 : decode cX6_sketch 197 = .ok (.iadd, 1) := by decide +kernel
theorem dX6_sketch_198 : decode cX6_sketch 198 = .ok (.iconst 1, 1) := by decide +kernel
theorem dX6_sketch_199 : decode cX6_sketch 199 = .ok (.invokevirtual 46, 3) := by decide +kernel
theorem dX6_sketch_202 : decode cX6_sketch 202 = .ok (.aload_n 1, 1) := by decide +kernel
theorem dX6_sketch_203 : decode cX6_sketch 203 = .ok (.iload_n 2, 1) := by decide +kernel
theorem dX6_sketch_204 : decode cX6_sketch 204 = .ok (.bipush 60, 2) := by decide +kernel
theorem dX6_sketch_206 : decode cX6_sketch 206 = .ok (.iadd, 1) := by decide +kernel
theorem dX6_sketch_207 : decode cX6_sketch 207 = .ok (.iconst 1, 1) := by decide +kernel
theorem dX6_sketch_208 : decode cX6_sketch 208 = .ok (.invokevirtual 46, 3) := by decide +kernel
theorem dX6_sketch_211 : decode cX6_sketch 211 = .ok (.aload_n 1, 1) := by decide +kernel
theorem dX6_sketch_212 : decode cX6_sketch 212 = .ok (.iload_n 2, 1) := by decide +kernel
theorem dX6_sketch_213 : decode cX6_sketch 213 = .ok (.bipush 76, 2) := by decide +kernel
theorem dX6_sketch_215 : decode cX6_sketch 215 = .ok (.iadd, 1) := by decide +kernel
theorem dX6_sketch_216 : decode cX6_sketch 216 = .ok (.iconst 1, 1) := by decide +kernel
theorem dX6_sketch_217 : decode cX6_sketch 217 = .ok (.invokevirtual 61, 3) := by decide +kernel
theorem dX6_sketch_220 : decode cX6_sketch 220 = .ok (.aload_n 1, 1) := by decide +kernel
theorem dX6_sketch_221 : decode cX6_sketch 221 = .ok (.iload_n 2, 1) := by decide +kernel
theorem dX6_sketch_222 : decode cX6_sketch 222 = .ok (.bipush 84, 2) := by decide +kernel
theorem dX6_sketch_224 : decode cX6_sketch 224 = .ok (.iadd, 1) := by decide +kernel
theorem dX6_sketch_225 : decode cX6_sketch 225 = .ok (.bipush 11, 2) := by decide +kernel
theorem dX6_sketch_227 : decode cX6_sketch 227 = .ok (.invokevirtual 61, 3) := by decide +kernel
theorem dX6_sketch_230 : decode cX6_sketch 230 = .ok (.aload_n 1, 1) := by decide +kernel
theorem dX6_sketch_231 : decode cX6_sketch 231 = .ok (.iload_n 2, 1) := by decide +kernel
theorem dX6_sketch_232 : decode cX6_sketch 232 = .ok (.bipush 88, 2) := by decide +kernel
theorem dX6_sketch_234 : decode cX6_sketch 234 = .ok (.iadd, 1) := by decide +kernel
theorem dX6_sketch_235 : decode cX6_sketch 235 = .ok (.sipush 128, 3) := by decide +kernel
theorem dX6_sketch_238 : decode cX6_sketch 238 = .ok (.invokevirtual 46, 3) := by decide +kernel
theorem dX6_sketch_241 : decode cX6_sketch 241 = .ok (.aload_n 1, 1) := by decide +kernel
theorem dX6_sketch_242 : decode cX6_sketch 242 = .ok (.iload_n 2, 1) := by decide +kernel
theorem dX6_sketch_243 : decode cX6_sketch 243 = .ok (.bipush 96, 2) := by decide +kernel
theorem dX6_sketch_245 : decode cX6_sketch 245 = .ok (.iadd, 1) := by decide +kernel
theorem dX6_sketch_246 : decode cX6_sketch 246 = .ok (.iconst 2, 1) := by decide +kernel
theorem dX6_sketch_247 : decode cX6_sketch 247 = .ok (.invokevirtual 61, 3) := by decide +kernel
theorem dX6_sketch_250 : decode cX6_sketch 250 = .ok (.aload_n 1, 1) := by decide +kernel
theorem dX6_sketch_251 : decode cX6_sketch 251 = .ok (.iload_n 2, 1) := by decide +kernel
theorem dX6_sketch_252 : decode cX6_sketch 252 = .ok (.bipush 104, 2) := by decide +kernel
theorem dX6_sketch_254 : decode cX6_sketch 254 = .ok (.iadd, 1) := by decide +kernel
theorem dX6_sketch_255 : decode cX6_sketch 255 = .ok (.iload_n 3, 1) := by decide +kernel
theorem dX6_sketch_256 : decode cX6_sketch 256 = .ok (.invokevirtual 61, 3) := by decide +kernel
theorem dX6_sketch_259 : decode cX6_sketch 259 = .ok (.return_, 1) := by decide +kernel
theorem dX1_copy_0 : decode cX1_copy 0 = .ok (.iload_n 3, 1) := by decide +kernel
theorem dX1_copy_1 : decode cX1_copy 1 = .ok (.ifCond .lt 47, 3) := by decide +kernel
theorem dX1_copy_4 : decode cX1_copy 4 = .ok (.iload_n 1, 1) := by decide +kernel
theorem dX1_copy_5 : decode cX1_copy 5 = .ok (.ifCond .lt 43, 3) := by decide +kernel
theorem dX1_copy_8 : decode cX1_copy 8 = .ok (.iload_n 2, 1) := by decide +kernel
theorem dX1_copy_9 : decode cX1_copy 9 = .ok (.ifCond .lt 39, 3) := by decide +kernel
theorem dX1_copy_12 : decode cX1_copy 12 = .ok (.iload_n 1, 1) := by decide +kernel
theorem dX1_copy_13 : decode cX1_copy 13 = .ok (.aload_n 0, 1) := by decide +kernel
theorem dX1_copy_14 : decode cX1_copy 14 = .ok (.getfield 15, 3) := by decide +kernel
theorem dX1_copy_17 : decode cX1_copy 17 = .ok (.arraylength, 1) := by decide +kernel
theorem dX1_copy_18 : decode cX1_copy 18 = .ok (.iload_n 3, 1) := by decide +kernel
theorem dX1_copy_19 : decode cX1_copy 19 = .ok (.isub, 1) := by decide +kernel
theorem dX1_copy_20 : decode cX1_copy 20 = .ok (.if_icmp .gt 28, 3) := by decide +kernel
theorem dX1_copy_23 : decode cX1_copy 23 = .ok (.iload_n 2, 1) := by decide +kernel
theorem dX1_copy_24 : decode cX1_copy 24 = .ok (.aload_n 0, 1) := by decide +kernel
theorem dX1_copy_25 : decode cX1_copy 25 = .ok (.getfield 15, 3) := by decide +kernel
theorem dX1_copy_28 : decode cX1_copy 28 = .ok (.arraylength, 1) := by decide +kernel
theorem dX1_copy_29 : decode cX1_copy 29 = .ok (.iload_n 3, 1) := by decide +kernel
theorem dX1_copy_30 : decode cX1_copy 30 = .ok (.isub, 1) := by decide +kernel
theorem dX1_copy_31 : decode cX1_copy 31 = .ok (.if_icmp .gt 17, 3) := by decide +kernel
theorem dX1_copy_34 : decode cX1_copy 34 = .ok (.aload_n 0, 1) := by decide +kernel
theorem dX1_copy_35 : decode cX1_copy 35 = .ok (.getfield 15, 3) := by decide +kernel
theorem dX1_copy_38 : decode cX1_copy 38 = .ok (.iload_n 1, 1) := by decide +kernel
theorem dX1_copy_39 : decode cX1_copy 39 = .ok (.aload_n 0, 1) := by decide +kernel
theorem dX1_copy_40 : decode cX1_copy 40 = .ok (.getfield 15, 3) := by decide +kernel
theorem dX1_copy_43 : decode cX1_copy 43 = .ok (.iload_n 2, 1) := by decide +kernel
theorem dX1_copy_44 : decode cX1_copy 44 = .ok (.iload_n 3, 1) := by decide +kernel
theorem dX1_copy_45 : decode cX1_copy 45 = .ok (.invokestatic 27, 3) := by decide +kernel
theorem dX1_copy_48 : decode cX1_copy 48 = .ok (.return_, 1) := by decide +kernel
theorem dX6_lay_0 : decode cX6_lay 0 = .ok (.aload_n 0, 1) := by decide +kernel
theorem dX6_lay_1 : decode cX6_lay 1 = .ok (.aload_n 1, 1) := by decide +kernel
theorem dX6_lay_2 : decode cX6_lay 2 = .ok (.sipush 1024, 3) := by decide +kernel
theorem dX6_lay_5 : decode cX6_lay 5 = .ok (.iload_n 2, 1) := by decide +kernel
theorem dX6_lay_6 : decode cX6_lay 6 = .ok (.invokevirtual 26, 3) := by decide +kernel
theorem dX6_lay_9 : decode cX6_lay 9 = .ok (.iconst 1, 1) := by decide +kernel
theorem dX6_lay_10 : decode cX6_lay 10 = .ok (.istore_n 3, 1) := by decide +kernel
theorem dX6_lay_11 : decode cX6_lay 11 = .ok (.iload_n 3, 1) := by decide +kernel
theorem dX6_lay_12 : decode cX6_lay 12 = .ok (.aload_n 0, 1) := by decide +kernel
theorem dX6_lay_13 : decode cX6_lay 13 = .ok (.getfield 9, 3) := by decide +kernel
theorem dX6_lay_16 : decode cX6_lay 16 = .ok (.invokevirtual 30, 3) := by decide +kernel
theorem dX6_lay_19 : decode cX6_lay 19 = .ok (.if_icmp .ge 42, 3) := by decide +kernel
theorem dX6_lay_22 : decode cX6_lay 22 = .ok (.aload_n 0, 1) := by decide +kernel
theorem dX6_lay_23 : decode cX6_lay 23 = .ok (.getfield 9, 3) := by decide +kernel
theorem dX6_lay_26 : decode cX6_lay 26 = .ok (.iload_n 3, 1) := by decide +kernel
theorem dX6_lay_27 : decode cX6_lay 27 = .ok (.iconst 0, 1) := by decide +kernel
theorem dX6_lay_28 : decode cX6_lay 28 = .ok (.invokevirtual 36, 3) := by decide +kernel
theorem dX6_lay_31 : decode cX6_lay 31 = .ok (.istore 4, 2) := by decide +kernel
theorem dX6_lay_33 : decode cX6_lay 33 = .ok (.aload_n 1, 1) := by decide +kernel
theorem dX6_lay_34 : decode cX6_lay 34 = .ok (.sipush 1024, 3) := by decide +kernel
theorem dX6_lay_37 : decode cX6_lay 37 = .ok (.iload 4, 2) := by decide +kernel
theorem dX6_lay_39 : decode cX6_lay 39 = .ok (.sipush 2048, 3) := by decide +kernel
theorem dX6_lay_42 : decode cX6_lay 42 = .ok (.invokevirtual 40, 3) := by decide +kernel
theorem dX6_lay_45 : decode cX6_lay 45 = .ok (.aload_n 1, 1) := by decide +kernel
theorem dX6_lay_46 : decode cX6_lay 46 = .ok (.iload 4, 2) := by decide +kernel
theorem dX6_lay_48 : decode cX6_lay 48 = .ok (.bipush 90, 2) := by decide +kernel
theorem dX6_lay_50 : decode cX6_lay 50 = .ok (.iadd, 1) := by decide +kernel
theorem dX6_lay_51 : decode cX6_lay 51 = .ok (.iload_n 3, 1) := by decide +kernel
theorem dX6_lay_52 : decode cX6_lay 52 = .ok (.invokevirtual 46, 3) := by decide +kernel
theorem dX6_lay_55 : decode cX6_lay 55 = .ok (.iinc 3 1, 3) := by decide +kernel
theorem dX6_lay_58 : decode cX6_lay 58 = .ok (.goto (-47), 3) := by decide +kernel
theorem dX6_lay_61 : decode cX6_lay 61 = .ok (.return_, 1) := by decide +kernel
theorem dX2_inodeAt_0 : decode cX2_inodeAt 0 = .ok (.aload_n 0, 1) := by decide +kernel
theorem dX2_inodeAt_1 : decode cX2_inodeAt 1 = .ok (.getfield 21, 3) := by decide +kernel
theorem dX2_inodeAt_4 : decode cX2_inodeAt 4 = .ok (.iconst 1, 1) := by decide +kernel
theorem dX2_inodeAt_5 : decode cX2_inodeAt 5 = .ok (.if_icmp .ge 5, 3) := by decide +kernel
theorem dX2_inodeAt_8 : decode cX2_inodeAt 8 = .ok (.iconst (-1), 1) := by decide +kernel
theorem dX2_inodeAt_9 : decode cX2_inodeAt 9 = .ok (.ireturn, 1) := by decide +kernel
theorem dX2_inodeAt_10 : decode cX2_inodeAt 10 = .ok (.iconst 1, 1) := by decide +kernel
theorem dX2_inodeAt_11 : decode cX2_inodeAt 11 = .ok (.iload_n 1, 1) := by decide +kernel
theorem dX2_inodeAt_12 : decode cX2_inodeAt 12 = .ok (.iconst 1, 1) := by decide +kernel
theorem dX2_inodeAt_13 : decode cX2_inodeAt 13 = .ok (.isub, 1) := by decide +kernel
theorem dX2_inodeAt_14 : decode cX2_inodeAt 14 = .ok (.aload_n 0, 1) := by decide +kernel
theorem dX2_inodeAt_15 : decode cX2_inodeAt 15 = .ok (.getfield 21, 3) := by decide +kernel
theorem dX2_inodeAt_18 : decode cX2_inodeAt 18 = .ok (.idiv, 1) := by decide +kernel
theorem dX2_inodeAt_19 : decode cX2_inodeAt 19 = .ok (.aload_n 0, 1) := by decide +kernel
theorem dX2_inodeAt_20 : decode cX2_inodeAt 20 = .ok (.getfield 15, 3) := by decide +kernel
theorem dX2_inodeAt_23 : decode cX2_inodeAt 23 = .ok (.imul, 1) := by decide +kernel
theorem dX2_inodeAt_24 : decode cX2_inodeAt 24 = .ok (.iadd, 1) := by decide +kernel
theorem dX2_inodeAt_25 : decode cX2_inodeAt 25 = .ok (.iconst 4, 1) := by decide +kernel
theorem dX2_inodeAt_26 : decode cX2_inodeAt 26 = .ok (.iadd, 1) := by decide +kernel
theorem dX2_inodeAt_27 : decode cX2_inodeAt 27 = .ok (.istore_n 2, 1) := by decide +kernel
theorem dX2_inodeAt_28 : decode cX2_inodeAt 28 = .ok (.iload_n 2, 1) := by decide +kernel
theorem dX2_inodeAt_29 : decode cX2_inodeAt 29 = .ok (.sipush 1024, 3) := by decide +kernel
theorem dX2_inodeAt_32 : decode cX2_inodeAt 32 = .ok (.imul, 1) := by decide +kernel
theorem dX2_inodeAt_33 : decode cX2_inodeAt 33 = .ok (.iload_n 1, 1) := by decide +kernel
theorem dX2_inodeAt_34 : decode cX2_inodeAt 34 = .ok (.iconst 1, 1) := by decide +kernel
theorem dX2_inodeAt_35 : decode cX2_inodeAt 35 = .ok (.isub, 1) := by decide +kernel
theorem dX2_inodeAt_36 : decode cX2_inodeAt 36 = .ok (.aload_n 0, 1) := by decide +kernel
theorem dX2_inodeAt_37 : decode cX2_inodeAt 37 = .ok (.getfield 21, 3) := by decide +kernel
theorem dX2_inodeAt_40 : decode cX2_inodeAt 40 = .ok (.irem, 1) := by decide +kernel
theorem dX2_inodeAt_41 : decode cX2_inodeAt 41 = .ok (.sipush 128, 3) := by decide +kernel
theorem dX2_inodeAt_44 : decode cX2_inodeAt 44 = .ok (.imul, 1) := by decide +kernel
theorem dX2_inodeAt_45 : decode cX2_inodeAt 45 = .ok (.iadd, 1) := by decide +kernel
theorem dX2_inodeAt_46 : decode cX2_inodeAt 46 = .ok (.ireturn, 1) := by decide +kernel
theorem dX4_begin_0 : decode cX4_begin 0 = .ok (.aload_n 0, 1) := by decide +kernel
theorem dX4_begin_1 : decode cX4_begin 1 = .ok (.getfield 15, 3) := by decide +kernel
theorem dX4_begin_4 : decode cX4_begin 4 = .ok (.iload_n 1, 1) := by decide +kernel
theorem dX4_begin_5 : decode cX4_begin 5 = .ok (.invokevirtual 23, 3) := by decide +kernel
theorem dX4_begin_8 : decode cX4_begin 8 = .ok (.istore_n 3, 1) := by decide +kernel
theorem dX4_begin_9 : decode cX4_begin 9 = .ok (.aload_n 0, 1) := by decide +kernel
theorem dX4_begin_10 : decode cX4_begin 10 = .ok (.getfield 9, 3) := by decide +kernel
theorem dX4_begin_13 : decode cX4_begin 13 = .ok (.iload_n 3, 1) := by decide +kernel
theorem dX4_begin_14 : decode cX4_begin 14 = .ok (.iload_n 2, 1) := by decide +kernel
theorem dX4_begin_15 : decode cX4_begin 15 = .ok (.ifCond .eq 9, 3) := by decide +kernel
theorem dX4_begin_18 : decode cX4_begin 18 = .ok (.sipush 16877, 3) := by decide +kernel
theorem dX4_begin_21 : decode cX4_begin 21 = .ok (.goto 5, 3) := by decide +kernel
theorem dX4_begin_24 : decode cX4_begin 24 = .ok (.ldc 60, 2) := by decide +kernel
theorem dX4_begin_26 : decode cX4_begin 26 = .ok (.invokevirtual 41, 3) := by decide +kernel
theorem dX4_begin_29 : decode cX4_begin 29 = .ok (.aload_n 0, 1) := by decide +kernel
theorem dX4_begin_30 : decode cX4_begin 30 = .ok (.getfield 9, 3) := by decide +kernel
theorem dX4_begin_33 : decode cX4_begin 33 = .ok (.iload_n 3, 1) := by decide +kernel
theorem dX4_begin_34 : decode cX4_begin 34 = .ok (.bipush 26, 2) := by decide +kernel
theorem dX4_begin_36 : decode cX4_begin 36 = .ok (.iadd, 1) := by decide +kernel
theorem dX4_begin_37 : decode cX4_begin 37 = .ok (.iload_n 2, 1) := by decide +kernel
theorem dX4_begin_38 : decode cX4_begin 38 = .ok (.ifCond .eq 7, 3) := by decide +kernel
theorem dX4_begin_41 : decode cX4_begin 41 = .ok (.iconst 2, 1) := by decide +kernel
theorem dX4_begin_42 : decode cX4_begin 42 = .ok (.goto 4, 3) := by decide +kernel
theorem dX4_begin_45 : decode cX4_begin 45 = .ok (.iconst 1, 1) := by decide +kernel
theorem dX4_begin_46 : decode cX4_begin 46 = .ok (.invokevirtual 41, 3) := by decide +kernel
theorem dX4_begin_49 : decode cX4_begin 49 = .ok (.return_, 1) := by decide +kernel
theorem dX2_groupOfInode_0 : decode cX2_groupOfInode 0 = .ok (.aload_n 0, 1) := by decide +kernel
theorem dX2_groupOfInode_1 : decode cX2_groupOfInode 1 = .ok (.getfield 21, 3) := by decide +kernel
theorem dX2_groupOfInode_4 : decode cX2_groupOfInode 4 = .ok (.ifCond .le 14, 3) := by decide +kernel
theorem dX2_groupOfInode_7 : decode cX2_groupOfInode 7 = .ok (.iload_n 1, 1) := by decide +kernel
theorem dX2_groupOfInode_8 : decode cX2_groupOfInode 8 = .ok (.iconst 1, 1) := by decide +kernel
theorem dX2_groupOfInode_9 : decode cX2_groupOfInode 9 = .ok (.isub, 1) := by decide +kernel
theorem dX2_groupOfInode_10 : decode cX2_groupOfInode 10 = .ok (.aload_n 0, 1) := by decide +kernel
theorem dX2_groupOfInode_11 : decode cX2_groupOfInode 11 = .ok (.getfield 21, 3) := by decide +kernel
theorem dX2_groupOfInode_14 : decode cX2_groupOfInode 14 = .ok (.idiv, 1) := by decide +kernel
theorem dX2_groupOfInode_15 : decode cX2_groupOfInode 15 = .ok (.goto 4, 3) := by decide +kernel
theorem dX2_groupOfInode_18 : decode cX2_groupOfInode 18 = .ok (.iconst 0, 1) := by decide +kernel
theorem dX2_groupOfInode_19 : decode cX2_groupOfInode 19 = .ok (.ireturn, 1) := by decide +kernel
theorem dX4_countDirectories_0 : decode cX4_countDirectories 0 = .ok (.aload_n 0, 1) := by decide +kernel
theorem dX4_countDirectories_1 : decode cX4_countDirectories 1 = .ok (.getfield 15, 3) := by decide +kernel
theorem dX4_countDirectories_4 : decode cX4_countDirectories 4 = .ok (.iload_n 1, 1) := by decide +kernel
theorem dX4_countDirectories_5 : decode cX4_countDirectories 5 = .ok (.invokevirtual 54, 3) := by decide +kernel
theorem dX4_countDirectories_8 : decode cX4_countDirectories 8 = .ok (.istore_n 3, 1) := by decide +kernel
theorem dX4_countDirectories_9 : decode cX4_countDirectories 9 = .ok (.iconst 0, 1) := by decide +kernel
theorem dX4_countDirectories_10 : decode cX4_countDirectories 10 = .ok (.istore 4, 2) := by decide +kernel
theorem dX4_countDirectories_12 : decode cX4_countDirectories 12 = .ok (.iload 4, 2) := by decide +kernel
theorem dX4_countDirectories_14 : decode cX4_countDirectories 14 = .ok (.aload_n 0, 1) := by decide +kernel
theorem dX4_countDirectories_15 : decode cX4_countDirectories 15 = .ok (.getfield 15, 3) := by decide +kernel
theorem dX4_countDirectories_18 : decode cX4_countDirectories 18 = .ok (.invokevirtual 57, 3) := by decide +kernel
theorem dX4_countDirectories_21 : decode cX4_countDirectories 21 = .ok (.if_icmp .ge 49, 3) := by decide +kernel
theorem dX4_countDirectories_24 : decode cX4_countDirectories 24 = .ok (.aload_n 0, 1) := by decide +kernel
theorem dX4_countDirectories_25 : decode cX4_countDirectories 25 = .ok (.getfield 15, 3) := by decide +kernel
theorem dX4_countDirectories_28 : decode cX4_countDirectories 28 = .ok (.iload 4, 2) := by decide +kernel
theorem dX4_countDirectories_30 : decode cX4_countDirectories 30 = .ok (.iconst 1, 1) := by decide +kernel
theorem dX4_countDirectories_31 : decode cX4_countDirectories 31 = .ok (.invokevirtual 46, 3) := by decide +kernel
theorem dX4_countDirectories_34 : decode cX4_countDirectories 34 = .ok (.bipush 32, 2) := by decide +kernel
theorem dX4_countDirectories_36 : decode cX4_countDirectories 36 = .ok (.iload_n 3, 1) := by decide +kernel
theorem dX4_countDirectories_37 : decode cX4_countDirectories 37 = .ok (.imul, 1) := by decide +kernel
theorem dX4_countDirectories_38 : decode cX4_countDirectories 38 = .ok (.iadd, 1) := by decide +kernel
theorem dX4_countDirectories_39 : decode cX4_countDirectories 39 = .ok (.bipush 16, 2) := by decide +kernel
theorem dX4_countDirectories_41 : decode cX4_countDirectories 41 = .ok (.iadd, 1) := by decide +kernel
theorem dX4_countDirectories_42 : decode cX4_countDirectories 42 = .ok (.istore 5, 2) := by decide +kernel
theorem dX4_countDirectories_44 : decode cX4_countDirectories 44 = .ok (.aload_n 0, 1) := by decide +kernel
theorem dX4_countDirectories_45 : decode cX4_countDirectories 45 = .ok (.getfield 9, 3) := by decide +kernel
theorem dX4_countDirectories_48 : decode cX4_countDirectories 48 = .ok (.iload 5, 2) := by decide +kernel
theorem dX4_countDirectories_50 : decode cX4_countDirectories 50 = .ok (.aload_n 0, 1) := by decide +kernel
theorem dX4_countDirectories_51 : decode cX4_countDirectories 51 = .ok (.getfield 9, 3) := by decide +kernel
theorem dX4_countDirectories_54 : decode cX4_countDirectories 54 = .ok (.iload 5, 2) := by decide +kernel
theorem dX4_countDirectories_56 : decode cX4_countDirectories 56 = .ok (.invokevirtual 29, 3) := by decide +kernel
theorem dX4_countDirectories_59 : decode cX4_countDirectories 59 = .ok (.iload_n 2, 1) := by decide +kernel
theorem dX4_countDirectories_60 : decode cX4_countDirectories 60 = .ok (.iadd, 1) := by decide +kernel
theorem dX4_countDirectories_61 : decode cX4_countDirectories 61 = .ok (.invokevirtual 41, 3) := by decide +kernel
theorem dX4_countDirectories_64 : decode cX4_countDirectories 64 = .ok (.iinc 4 1, 3) := by decide +kernel
theorem dX4_countDirectories_67 : decode cX4_countDirectories 67 = .ok (.goto (-55), 3) := by decide +kernel
theorem dX4_countDirectories_70 : decode cX4_countDirectories 70 = .ok (.return_, 1) := by decide +kernel
theorem dX1_get4_0 : decode cX1_get4 0 = .ok (.iload_n 1, 1) := by decide +kernel
theorem dX1_get4_1 : decode cX1_get4 1 = .ok (.ifCond .lt 14, 3) := by decide +kernel
theorem dX1_get4_4 : decode cX1_get4 4 = .ok (.iload_n 1, 1) := by decide +kernel
theorem dX1_get4_5 : decode cX1_get4 5 = .ok (.aload_n 0, 1) := by decide +kernel
theorem dX1_get4_6 : decode cX1_get4 6 = .ok (.getfield 15, 3) := by decide +kernel
theorem dX1_get4_9 : decode cX1_get4 9 = .ok (.arraylength, 1) := by decide +kernel
theorem dX1_get4_10 : decode cX1_get4 10 = .ok (.iconst 4, 1) := by decide +kernel
theorem dX1_get4_11 : decode cX1_get4 11 = .ok (.isub, 1) := by decide +kernel
theorem dX1_get4_12 : decode cX1_get4 12 = .ok (.if_icmp .le 5, 3) := by decide +kernel
theorem dX1_get4_15 : decode cX1_get4 15 = .ok (.iconst 0, 1) := by decide +kernel
theorem dX1_get4_16 : decode cX1_get4 16 = .ok (.ireturn, 1) := by decide +kernel
theorem dX1_get4_17 : decode cX1_get4 17 = .ok (.aload_n 0, 1) := by decide +kernel
theorem dX1_get4_18 : decode cX1_get4 18 = .ok (.getfield 15, 3) := by decide +kernel
theorem dX1_get4_21 : decode cX1_get4 21 = .ok (.iload_n 1, 1) := by decide +kernel
theorem dX1_get4_22 : decode cX1_get4 22 = .ok (.baload, 1) := by decide +kernel
theorem dX1_get4_23 : decode cX1_get4 23 = .ok (.sipush 255, 3) := by decide +kernel
theorem dX1_get4_26 : decode cX1_get4 26 = .ok (.iand, 1) := by decide +kernel
theorem dX1_get4_27 : decode cX1_get4 27 = .ok (.aload_n 0, 1) := by decide +kernel
theorem dX1_get4_28 : decode cX1_get4 28 = .ok (.getfield 15, 3) := by decide +kernel
theorem dX1_get4_31 : decode cX1_get4 31 = .ok (.iload_n 1, 1) := by decide +kernel
theorem dX1_get4_32 : decode cX1_get4 32 = .ok (.iconst 1, 1) := by decide +kernel
theorem dX1_get4_33 : decode cX1_get4 33 = .ok (.iadd, 1) := by decide +kernel
theorem dX1_get4_34 : decode cX1_get4 34 = .ok (.baload, 1) := by decide +kernel
theorem dX1_get4_35 : decode cX1_get4 35 = .ok (.sipush 255, 3) := by decide +kernel
theorem dX1_get4_38 : decode cX1_get4 38 = .ok (.iand, 1) := by decide +kernel
theorem dX1_get4_39 : decode cX1_get4 39 = .ok (.bipush 8, 2) := by decide +kernel
theorem dX1_get4_41 : decode cX1_get4 41 = .ok (.ishl, 1) := by decide +kernel
theorem dX1_get4_42 : decode cX1_get4 42 = .ok (.ior, 1) := by decide +kernel
theorem dX1_get4_43 : decode cX1_get4 43 = .ok (.aload_n 0, 1) := by decide +kernel
theorem dX1_get4_44 : decode cX1_get4 44 = .ok (.getfield 15, 3) := by decide +kernel
theorem dX1_get4_47 : decode cX1_get4 47 = .ok (.iload_n 1, 1) := by decide +kernel
theorem dX1_get4_48 : decode cX1_get4 48 = .ok (.iconst 2, 1) := by decide +kernel
theorem dX1_get4_49 : decode cX1_get4 49 = .ok (.iadd, 1) := by decide +kernel
theorem dX1_get4_50 : decode cX1_get4 50 = .ok (.baload, 1) := by decide +kernel
theorem dX1_get4_51 : decode cX1_get4 51 = .ok (.sipush 255, 3) := by decide +kernel
theorem dX1_get4_54 : decode cX1_get4 54 = .ok (.iand, 1) := by decide +kernel
theorem dX1_get4_55 : decode cX1_get4 55 = .ok (.bipush 16, 2) := by decide +kernel
theorem dX1_get4_57 : decode cX1_get4 57 = .ok (.ishl, 1) := by decide +kernel
theorem dX1_get4_58 : decode cX1_get4 58 = .ok (.ior, 1) := by decide +kernel
theorem dX1_get4_59 : decode cX1_get4 59 = .ok (.aload_n 0, 1) := by decide +kernel
theorem dX1_get4_60 : decode cX1_get4 60 = .ok (.getfield 15, 3) := by decide +kernel
theorem dX1_get4_63 : decode cX1_get4 63 = .ok (.iload_n 1, 1) := by decide +kernel
theorem dX1_get4_64 : decode cX1_get4 64 = .ok (.iconst 3, 1) := by decide +kernel
theorem dX1_get4_65 : decode cX1_get4 65 = .ok (.iadd, 1) := by decide +kernel
theorem dX1_get4_66 : decode cX1_get4 66 = .ok (.baload, 1) := by decide +kernel
theorem dX1_get4_67 : decode cX1_get4 67 = .ok (.sipush 255, 3) := by decide +kernel
theorem dX1_get4_70 : decode cX1_get4 70 = .ok (.iand, 1) := by decide +kernel
theorem dX1_get4_71 : decode cX1_get4 71 = .ok (.bipush 24, 2) := by decide +kernel
theorem dX1_get4_73 : decode cX1_get4 73 = .ok (.ishl, 1) := by decide +kernel
theorem dX1_get4_74 : decode cX1_get4 74 = .ok (.ior, 1) := by decide +kernel
theorem dX1_get4_75 : decode cX1_get4 75 = .ok (.ireturn, 1) := by decide +kernel
theorem dX4_size_0 : decode cX4_size 0 = .ok (.aload_n 0, 1) := by decide +kernel
theorem dX4_size_1 : decode cX4_size 1 = .ok (.getfield 9, 3) := by decide +kernel
theorem dX4_size_4 : decode cX4_size 4 = .ok (.aload_n 0, 1) := by decide +kernel
theorem dX4_size_5 : decode cX4_size 5 = .ok (.getfield 15, 3) := by decide +kernel
theorem dX4_size_8 : decode cX4_size 8 = .ok (.iload_n 1, 1) := by decide +kernel
theorem dX4_size_9 : decode cX4_size 9 = .ok (.invokevirtual 23, 3) := by decide +kernel
theorem dX4_size_12 : decode cX4_size 12 = .ok (.iconst 4, 1) := by decide +kernel
theorem dX4_size_13 : decode cX4_size 13 = .ok (.iadd, 1) := by decide +kernel
theorem dX4_size_14 : decode cX4_size 14 = .ok (.invokevirtual 34, 3) := by decide +kernel
theorem dX4_size_17 : decode cX4_size 17 = .ok (.ireturn, 1) := by decide +kernel
theorem dX4_blocksFor_0 : decode cX4_blocksFor 0 = .ok (.iload_n 0, 1) := by decide +kernel
theorem dX4_blocksFor_1 : decode cX4_blocksFor 1 = .ok (.sipush 1024, 3) := by decide +kernel
theorem dX4_blocksFor_4 : decode cX4_blocksFor 4 = .ok (.iadd, 1) := by decide +kernel
theorem dX4_blocksFor_5 : decode cX4_blocksFor 5 = .ok (.iconst 1, 1) := by decide +kernel
theorem dX4_blocksFor_6 : decode cX4_blocksFor 6 = .ok (.isub, 1) := by decide +kernel
theorem dX4_blocksFor_7 : decode cX4_blocksFor 7 = .ok (.sipush 1024, 3) := by decide +kernel
theorem dX4_blocksFor_10 : decode cX4_blocksFor 10 = .ok (.idiv, 1) := by decide +kernel
theorem dX4_blocksFor_11 : decode cX4_blocksFor 11 = .ok (.ireturn, 1) := by decide +kernel
theorem dX4_beginsRow_0 : decode cX4_beginsRow 0 = .ok (.iload_n 0, 1) := by decide +kernel
theorem dX4_beginsRow_1 : decode cX4_beginsRow 1 = .ok (.sipush 268, 3) := by decide +kernel
theorem dX4_beginsRow_4 : decode cX4_beginsRow 4 = .ok (.if_icmp .lt 19, 3) := by decide +kernel
theorem dX4_beginsRow_7 : decode cX4_beginsRow 7 = .ok (.iload_n 0, 1) := by decide +kernel
theorem dX4_beginsRow_8 : decode cX4_beginsRow 8 = .ok (.sipush 268, 3) := by decide +kernel
theorem dX4_beginsRow_11 : decode cX4_beginsRow 11 = .ok (.isub, 1) := by decide +kernel
theorem dX4_beginsRow_12 : decode cX4_beginsRow 12 = .ok (.sipush 256, 3) := by decide +kernel
theorem dX4_beginsRow_15 : decode cX4_beginsRow 15 = .ok (.irem, 1) := by decide +kernel
theorem dX4_beginsRow_16 : decode cX4_beginsRow 16 = .ok (.ifCond .ne 7, 3) := by decide +kernel
theorem dX4_beginsRow_19 : decode cX4_beginsRow 19 = .ok (.iconst 1, 1) := by decide +kernel
theorem dX4_beginsRow_20 : decode cX4_beginsRow 20 = .ok (.goto 4, 3) := by decide +kernel
theorem dX4_beginsRow_23 : decode cX4_beginsRow 23 = .ok (.iconst 0, 1) := by decide +kernel
theorem dX4_beginsRow_24 : decode cX4_beginsRow 24 = .ok (.ireturn, 1) := by decide +kernel
theorem dX4_pointerAt_0 : decode cX4_pointerAt 0 = .ok (.iload_n 2, 1) := by decide +kernel
theorem dX4_pointerAt_1 : decode cX4_pointerAt 1 = .ok (.bipush 12, 2) := by decide +kernel
theorem dX4_pointerAt_3 : decode cX4_pointerAt 3 = .ok (.if_icmp .ge 12, 3) := by decide +kernel
theorem dX4_pointerAt_6 : decode cX4_pointerAt 6 = .ok (.iload_n 1, 1) := by decide +kernel
theorem dX4_pointerAt_7 : decode cX4_pointerAt 7 = .ok (.bipush 40, 2) := by decide +kernel
theorem dX4_pointerAt_9 : decode cX4_pointerAt 9 = .ok (.iadd, 1) := by decide +kernel
theorem dX4_pointerAt_10 : decode cX4_pointerAt 10 = .ok (.iconst 4, 1) := by decide +kernel
theorem dX4_pointerAt_11 : decode cX4_pointerAt 11 = .ok (.iload_n 2, 1) := by decide +kernel
theorem dX4_pointerAt_12 : decode cX4_pointerAt 12 = .ok (.imul, 1) := by decide +kernel
theorem dX4_pointerAt_13 : decode cX4_pointerAt 13 = .ok (.iadd, 1) := by decide +kernel
theorem dX4_pointerAt_14 : decode cX4_pointerAt 14 = .ok (.ireturn, 1) := by decide +kernel
theorem dX4_pointerAt_15 : decode cX4_pointerAt 15 = .ok (.iload_n 2, 1) := by decide +kernel
theorem dX4_pointerAt_16 : decode cX4_pointerAt 16 = .ok (.sipush 268, 3) := by decide +kernel
theorem dX4_pointerAt_19 : decode cX4_pointerAt 19 = .ok (.if_icmp .ge 26, 3) := by decide +kernel
theorem dX4_pointerAt_22 : decode cX4_pointerAt 22 = .ok (.aload_n 0, 1) := by decide +kernel
theorem dX4_pointerAt_23 : decode cX4_pointerAt 23 = .ok (.getfield 9, 3) := by decide +kernel
theorem dX4_pointerAt_26 : decode cX4_pointerAt 26 = .ok (.iload_n 1, 1) := by decide +kernel
theorem dX4_pointerAt_27 : decode cX4_pointerAt 27 = .ok (.bipush 88, 2) := by decide +kernel
theorem dX4_pointerAt_29 : decode cX4_pointerAt 29 = .ok (.iadd, 1) := by decide +kernel
theorem dX4_pointerAt_30 : decode cX4_pointerAt 30 = .ok (.invokevirtual 34, 3) := by decide +kernel
theorem dX4_pointerAt_33 : decode cX4_pointerAt 33 = .ok (.sipush 1024, 3) := by decide +kernel
theorem dX4_pointerAt_36 : decode cX4_pointerAt 36 = .ok (.imul, 1) := by decide +kernel
theorem dX4_pointerAt_37 : decode cX4_pointerAt 37 = .ok (.iconst 4, 1) := by decide +kernel
theorem dX4_pointerAt_38 : decode cX4_pointerAt 38 = .ok (.iload_n 2, 1) := by decide +kernel
theorem dX4_pointerAt_39 : decode cX4_pointerAt 39 = .ok (.bipush 12, 2) := by decide +kernel
theorem dX4_pointerAt_41 : decode cX4_pointerAt 41 = .ok (.isub, 1) := by decide +kernel
theorem dX4_pointerAt_42 : decode cX4_pointerAt 42 = .ok (.imul, 1) := by decide +kernel
theorem dX4_pointerAt_43 : decode cX4_pointerAt 43 = .ok (.iadd, 1) := by decide +kernel
theorem dX4_pointerAt_44 : decode cX4_pointerAt 44 = .ok (.ireturn, 1) := by decide +kernel
theorem dX4_pointerAt_45 : decode cX4_pointerAt 45 = .ok (.aload_n 0, 1) := by decide +kernel
theorem dX4_pointerAt_46 : decode cX4_pointerAt 46 = .ok (.getfield 9, 3) := by decide +kernel
theorem dX4_pointerAt_49 : decode cX4_pointerAt 49 = .ok (.iload_n 1, 1) := by decide +kernel
theorem dX4_pointerAt_50 : decode cX4_pointerAt 50 = .ok (.bipush 92, 2) := by decide +kernel
theorem dX4_pointerAt_52 : decode cX4_pointerAt 52 = .ok (.iadd, 1) := by decide +kernel
theorem dX4_pointerAt_53 : decode cX4_pointerAt 53 = .ok (.invokevirtual 34, 3) := by decide +kernel
theorem dX4_pointerAt_56 : decode cX4_pointerAt 56 = .ok (.sipush 1024, 3) := by decide +kernel
theorem dX4_pointerAt_59 : decode cX4_pointerAt 59 = .ok (.imul, 1) := by decide +kernel
theorem dX4_pointerAt_60 : decode cX4_pointerAt 60 = .ok (.iconst 4, 1) := by decide +kernel
theorem dX4_pointerAt_61 : decode cX4_pointerAt 61 = .ok (.iload_n 2, 1) := by decide +kernel
theorem dX4_pointerAt_62 : decode cX4_pointerAt 62 = .ok (.sipush 268, 3) := by decide +kernel
theorem dX4_pointerAt_65 : decode cX4_pointerAt 65 = .ok (.isub, 1) := by decide +kernel
theorem dX4_pointerAt_66 : decode cX4_pointerAt 66 = .ok (.sipush 256, 3) := by decide +kernel
theorem dX4_pointerAt_69 : decode cX4_pointerAt 69 = .ok (.idiv, 1) := by decide +kernel
theorem dX4_pointerAt_70 : decode cX4_pointerAt 70 = .ok (.imul, 1) := by decide +kernel
theorem dX4_pointerAt_71 : decode cX4_pointerAt 71 = .ok (.iadd, 1) := by decide +kernel
theorem dX4_pointerAt_72 : decode cX4_pointerAt 72 = .ok (.istore_n 3, 1) := by decide +kernel
theorem dX4_pointerAt_73 : decode cX4_pointerAt 73 = .ok (.aload_n 0, 1) := by decide +kernel
theorem dX4_pointerAt_74 : decode cX4_pointerAt 74 = .ok (.getfield 9, 3) := by decide +kernel
theorem dX4_pointerAt_77 : decode cX4_pointerAt 77 = .ok (.iload_n 3, 1) := by decide +kernel
theorem dX4_pointerAt_78 : decode cX4_pointerAt 78 = .ok (.invokevirtual 34, 3) := by decide +kernel
theorem dX4_pointerAt_81 : decode cX4_pointerAt 81 = .ok (.sipush 1024, 3) := by decide +kernel
theorem dX4_pointerAt_84 : decode cX4_pointerAt 84 = .ok (.imul, 1) := by decide +kernel
theorem dX4_pointerAt_85 : decode cX4_pointerAt 85 = .ok (.iconst 4, 1) := by decide +kernel
theorem dX4_pointerAt_86 : decode cX4_pointerAt 86 = .ok (.iload_n 2, 1) := by decide +kernel
theorem dX4_pointerAt_87 : decode cX4_pointerAt 87 = .ok (.sipush 268, 3) := by decide +kernel
theorem dX4_pointerAt_90 : decode cX4_pointerAt 90 = .ok (.isub, 1) := by decide +kernel
theorem dX4_pointerAt_91 : decode cX4_pointerAt 91 = .ok (.sipush 256, 3) := by decide +kernel
theorem dX4_pointerAt_94 : decode cX4_pointerAt 94 = .ok (.irem, 1) := by decide +kernel
theorem dX4_pointerAt_95 : decode cX4_pointerAt 95 = .ok (.imul, 1) := by decide +kernel
theorem dX4_pointerAt_96 : decode cX4_pointerAt 96 = .ok (.iadd, 1) := by decide +kernel
theorem dX4_pointerAt_97 : decode cX4_pointerAt 97 = .ok (.ireturn, 1) := by decide +kernel
theorem dX3_lowestClear_0 : decode cX3_lowestClear 0 = .ok (.iconst 0, 1) := by decide +kernel
theorem dX3_lowestClear_1 : decode cX3_lowestClear 1 = .ok (.istore_n 1, 1) := by decide +kernel
theorem dX3_lowestClear_2 : decode cX3_lowestClear 2 = .ok (.iload_n 1, 1) := by decide +kernel
theorem dX3_lowestClear_3 : decode cX3_lowestClear 3 = .ok (.bipush 7, 2) := by decide +kernel
theorem dX3_lowestClear_5 : decode cX3_lowestClear 5 = .ok (.if_icmp .ge 18, 3) := by decide +kernel
theorem dX3_lowestClear_8 : decode cX3_lowestClear 8 = .ok (.iload_n 0, 1) := by decide +kernel
theorem dX3_lowestClear_9 : decode cX3_lowestClear 9 = .ok (.iload_n 1, 1) := by decide +kernel
theorem dX3_lowestClear_10 : decode cX3_lowestClear 10 = .ok (.ishr, 1) := by decide +kernel
theorem dX3_lowestClear_11 : decode cX3_lowestClear 11 = .ok (.iconst 1, 1) := by decide +kernel
theorem dX3_lowestClear_12 : decode cX3_lowestClear 12 = .ok (.iand, 1) := by decide +kernel
theorem dX3_lowestClear_13 : decode cX3_lowestClear 13 = .ok (.iconst 1, 1) := by decide +kernel
theorem dX3_lowestClear_14 : decode cX3_lowestClear 14 = .ok (.if_icmp .ne 9, 3) := by decide +kernel
theorem dX3_lowestClear_17 : decode cX3_lowestClear 17 = .ok (.iinc 1 1, 3) := by decide +kernel
theorem dX3_lowestClear_20 : decode cX3_lowestClear 20 = .ok (.goto (-18), 3) := by decide +kernel
theorem dX3_lowestClear_23 : decode cX3_lowestClear 23 = .ok (.iload_n 1, 1) := by decide +kernel
theorem dX3_lowestClear_24 : decode cX3_lowestClear 24 = .ok (.ireturn, 1) := by decide +kernel
theorem dX3_mark_0 : decode cX3_mark 0 = .ok (.aload_n 0, 1) := by decide +kernel
theorem dX3_mark_1 : decode cX3_mark 1 = .ok (.getfield 42, 3) := by decide +kernel
theorem dX3_mark_4 : decode cX3_mark 4 = .ok (.iconst 1, 1) := by decide +kernel
theorem dX3_mark_5 : decode cX3_mark 5 = .ok (.if_icmp .ge 4, 3) := by decide +kernel
theorem dX3_mark_8 : decode cX3_mark 8 = .ok (.return_, 1) := by decide +kernel
theorem dX3_mark_9 : decode cX3_mark 9 = .ok (.iload_n 1, 1) := by decide +kernel
theorem dX3_mark_10 : decode cX3_mark 10 = .ok (.iconst 1, 1) := by decide +kernel
theorem dX3_mark_11 : decode cX3_mark 11 = .ok (.isub, 1) := by decide +kernel
theorem dX3_mark_12 : decode cX3_mark 12 = .ok (.aload_n 0, 1) := by decide +kernel
theorem dX3_mark_13 : decode cX3_mark 13 = .ok (.getfield 42, 3) := by decide +kernel
theorem dX3_mark_16 : decode cX3_mark 16 = .ok (.idiv, 1) := by decide +kernel
theorem dX3_mark_17 : decode cX3_mark 17 = .ok (.istore_n 3, 1) := by decide +kernel
theorem dX3_mark_18 : decode cX3_mark 18 = .ok (.iload_n 1, 1) := by decide +kernel
theorem dX3_mark_19 : decode cX3_mark 19 = .ok (.iconst 1, 1) := by decide +kernel
theorem dX3_mark_20 : decode cX3_mark 20 = .ok (.isub, 1) := by decide +kernel
theorem dX3_mark_21 : decode cX3_mark 21 = .ok (.aload_n 0, 1) := by decide +kernel
theorem dX3_mark_22 : decode cX3_mark 22 = .ok (.getfield 42, 3) := by decide +kernel
theorem dX3_mark_25 : decode cX3_mark 25 = .ok (.irem, 1) := by decide +kernel
theorem dX3_mark_26 : decode cX3_mark 26 = .ok (.istore 4, 2) := by decide +kernel
theorem dX3_mark_28 : decode cX3_mark 28 = .ok (.aload_n 0, 1) := by decide +kernel
theorem dX3_mark_29 : decode cX3_mark 29 = .ok (.getfield 15, 3) := by decide +kernel
theorem dX3_mark_32 : decode cX3_mark 32 = .ok (.iload_n 3, 1) := by decide +kernel
theorem dX3_mark_33 : decode cX3_mark 33 = .ok (.aload_n 0, 1) := by decide +kernel
theorem dX3_mark_34 : decode cX3_mark 34 = .ok (.getfield 19, 3) := by decide +kernel
theorem dX3_mark_37 : decode cX3_mark 37 = .ok (.invokevirtual 51, 3) := by decide +kernel
theorem dX3_mark_40 : decode cX3_mark 40 = .ok (.iload 4, 2) := by decide +kernel
theorem dX3_mark_42 : decode cX3_mark 42 = .ok (.bipush 8, 2) := by decide +kernel
theorem dX3_mark_44 : decode cX3_mark 44 = .ok (.idiv, 1) := by decide +kernel
theorem dX3_mark_45 : decode cX3_mark 45 = .ok (.iadd, 1) := by decide +kernel
theorem dX3_mark_46 : decode cX3_mark 46 = .ok (.istore 5, 2) := by decide +kernel
theorem dX3_mark_48 : decode cX3_mark 48 = .ok (.iconst 1, 1) := by decide +kernel
theorem dX3_mark_49 : decode cX3_mark 49 = .ok (.iload 4, 2) := by decide +kernel
theorem dX3_mark_51 : decode cX3_mark 51 = .ok (.bipush 8, 2) := by decide +kernel
theorem dX3_mark_53 : decode cX3_mark 53 = .ok (.irem, 1) := by decide +kernel
theorem dX3_mark_54 : decode cX3_mark 54 = .ok (.ishl, 1) := by decide +kernel
theorem dX3_mark_55 : decode cX3_mark 55 = .ok (.istore 6, 2) := by decide +kernel
theorem dX3_mark_57 : decode cX3_mark 57 = .ok (.aload_n 0, 1) := by decide +kernel
theorem dX3_mark_58 : decode cX3_mark 58 = .ok (.getfield 9, 3) := by decide +kernel
theorem dX3_mark_61 : decode cX3_mark 61 = .ok (.iload 5, 2) := by decide +kernel
theorem dX3_mark_63 : decode cX3_mark 63 = .ok (.iload_n 2, 1) := by decide +kernel
theorem dX3_mark_64 : decode cX3_mark 64 = .ok (.ifCond .eq 18, 3) := by decide +kernel
theorem dX3_mark_67 : decode cX3_mark 67 = .ok (.aload_n 0, 1) := by decide +kernel
theorem dX3_mark_68 : decode cX3_mark 68 = .ok (.getfield 9, 3) := by decide +kernel
theorem dX3_mark_71 : decode cX3_mark 71 = .ok (.iload 5, 2) := by decide +kernel
theorem dX3_mark_73 : decode cX3_mark 73 = .ok (.invokevirtual 64, 3) := by decide +kernel
theorem dX3_mark_76 : decode cX3_mark 76 = .ok (.iload 6, 2) := by decide +kernel
theorem dX3_mark_78 : decode cX3_mark 78 = .ok (.ior, 1) := by decide +kernel
theorem dX3_mark_79 : decode cX3_mark 79 = .ok (.goto 17, 3) := by decide +kernel
theorem dX3_mark_82 : decode cX3_mark 82 = .ok (.aload_n 0, 1) := by decide +kernel
theorem dX3_mark_83 : decode cX3_mark 83 = .ok (.getfield 9, 3) := by decide +kernel
theorem dX3_mark_86 : decode cX3_mark 86 = .ok (.iload 5, 2) := by decide +kernel
theorem dX3_mark_88 : decode cX3_mark 88 = .ok (.invokevirtual 64, 3) := by decide +kernel
theorem dX3_mark_91 : decode cX3_mark 91 = .ok (.iload 6, 2) := by decide +kernel
theorem dX3_mark_93 : decode cX3_mark 93 = .ok (.iconst (-1), 1) := by decide +kernel
theorem dX3_mark_94 : decode cX3_mark 94 = .ok (.ixor, 1) := by decide +kernel
theorem dX3_mark_95 : decode cX3_mark 95 = .ok (.iand, 1) := by decide +kernel
theorem dX3_mark_96 : decode cX3_mark 96 = .ok (.invokevirtual 67, 3) := by decide +kernel
theorem dX3_mark_99 : decode cX3_mark 99 = .ok (.iload_n 2, 1) := by decide +kernel
theorem dX3_mark_100 : decode cX3_mark 100 = .ok (.ifCond .eq 7, 3) := by decide +kernel
theorem dX3_mark_103 : decode cX3_mark 103 = .ok (.iconst (-1), 1) := by decide +kernel
theorem dX3_mark_104 : decode cX3_mark 104 = .ok (.goto 4, 3) := by decide +kernel
theorem dX3_mark_107 : decode cX3_mark 107 = .ok (.iconst 1, 1) := by decide +kernel
theorem dX3_mark_108 : decode cX3_mark 108 = .ok (.istore 7, 2) := by decide +kernel
theorem dX3_mark_110 : decode cX3_mark 110 = .ok (.iconst 0, 1) := by decide +kernel
theorem dX3_mark_111 : decode cX3_mark 111 = .ok (.istore 8, 2) := by decide +kernel
theorem dX3_mark_113 : decode cX3_mark 113 = .ok (.iload 8, 2) := by decide +kernel
theorem dX3_mark_115 : decode cX3_mark 115 = .ok (.aload_n 0, 1) := by decide +kernel
theorem dX3_mark_116 : decode cX3_mark 116 = .ok (.getfield 15, 3) := by decide +kernel
theorem dX3_mark_119 : decode cX3_mark 119 = .ok (.invokevirtual 48, 3) := by decide +kernel
theorem dX3_mark_122 : decode cX3_mark 122 = .ok (.if_icmp .ge 90, 3) := by decide +kernel
theorem dX3_mark_125 : decode cX3_mark 125 = .ok (.aload_n 0, 1) := by decide +kernel
theorem dX3_mark_126 : decode cX3_mark 126 = .ok (.getfield 15, 3) := by decide +kernel
theorem dX3_mark_129 : decode cX3_mark 129 = .ok (.iload 8, 2) := by decide +kernel
theorem dX3_mark_131 : decode cX3_mark 131 = .ok (.iconst 0, 1) := by decide +kernel
theorem dX3_mark_132 : decode cX3_mark 132 = .ok (.invokevirtual 51, 3) := by decide +kernel
theorem dX3_mark_135 : decode cX3_mark 135 = .ok (.aload_n 0, 1) := by decide +kernel
theorem dX3_mark_136 : decode cX3_mark 136 = .ok (.getfield 23, 3) := by decide +kernel
theorem dX3_mark_139 : decode cX3_mark 139 = .ok (.iadd, 1) := by decide +kernel
theorem dX3_mark_140 : decode cX3_mark 140 = .ok (.istore 9, 2) := by decide +kernel
theorem dX3_mark_142 : decode cX3_mark 142 = .ok (.aload_n 0, 1) := by decide +kernel
theorem dX3_mark_143 : decode cX3_mark 143 = .ok (.getfield 15, 3) := by decide +kernel
theorem dX3_mark_146 : decode cX3_mark 146 = .ok (.iload 8, 2) := by decide +kernel
theorem dX3_mark_148 : decode cX3_mark 148 = .ok (.iconst 1, 1) := by decide +kernel
theorem dX3_mark_149 : decode cX3_mark 149 = .ok (.invokevirtual 51, 3) := by decide +kernel
theorem dX3_mark_152 : decode cX3_mark 152 = .ok (.bipush 32, 2) := by decide +kernel
theorem dX3_mark_154 : decode cX3_mark 154 = .ok (.iload_n 3, 1) := by decide +kernel
theorem dX3_mark_155 : decode cX3_mark 155 = .ok (.imul, 1) := by decide +kernel
theorem dX3_mark_156 : decode cX3_mark 156 = .ok (.iadd, 1) := by decide +kernel
theorem dX3_mark_157 : decode cX3_mark 157 = .ok (.aload_n 0, 1) := by decide +kernel
theorem dX3_mark_158 : decode cX3_mark 158 = .ok (.getfield 26, 3) := by decide +kernel
theorem dX3_mark_161 : decode cX3_mark 161 = .ok (.iadd, 1) := by decide +kernel
theorem dX3_mark_162 : decode cX3_mark 162 = .ok (.istore 10, 2) := by decide +kernel
theorem dX3_mark_164 : decode cX3_mark 164 = .ok (.aload_n 0, 1) := by decide +kernel
theorem dX3_mark_165 : decode cX3_mark 165 = .ok (.getfield 9, 3) := by decide +kernel
theorem dX3_mark_168 : decode cX3_mark 168 = .ok (.iload 9, 2) := by decide +kernel
theorem dX3_mark_170 : decode cX3_mark 170 = .ok (.aload_n 0, 1) := by decide +kernel
theorem dX3_mark_171 : decode cX3_mark 171 = .ok (.getfield 9, 3) := by decide +kernel
theorem dX3_mark_174 : decode cX3_mark 174 = .ok (.iload 9, 2) := by decide +kernel
theorem dX3_mark_176 : decode cX3_mark 176 = .ok (.invokevirtual 71, 3) := by decide +kernel
theorem dX3_mark_179 : decode cX3_mark 179 = .ok (.iload 7, 2) := by decide +kernel
theorem dX3_mark_181 : decode cX3_mark 181 = .ok (.iadd, 1) := by decide +kernel
theorem dX3_mark_182 : decode cX3_mark 182 = .ok (.invokevirtual 90, 3) := by decide +kernel
theorem dX3_mark_185 : decode cX3_mark 185 = .ok (.aload_n 0, 1) := by decide +kernel
theorem dX3_mark_186 : decode cX3_mark 186 = .ok (.getfield 9, 3) := by decide +kernel
theorem dX3_mark_189 : decode cX3_mark 189 = .ok (.iload 10, 2) := by decide +kernel
theorem dX3_mark_191 : decode cX3_mark 191 = .ok (.aload_n 0, 1) := by decide +kernel
theorem dX3_mark_192 : decode cX3_mark 192 = .ok (.getfield 9, 3) := by decide +kernel
theorem dX3_mark_195 : decode cX3_mark 195 = .ok (.iload 10, 2) := by decide +kernel
theorem dX3_mark_197 : decode cX3_mark 197 = .ok (.invokevirtual 93, 3) := by decide +kernel
theorem dX3_mark_200 : decode cX3_mark 200 = .ok (.iload 7, 2) := by decide +kernel
theorem dX3_mark_202 : decode cX3_mark 202 = .ok (.iadd, 1) := by decide +kernel
theorem dX3_mark_203 : decode cX3_mark 203 = .ok (.invokevirtual 96, 3) := by decide +kernel
theorem dX3_mark_206 : decode cX3_mark 206 = .ok (.iinc 8 1, 3) := by decide +kernel
theorem dX3_mark_209 : decode cX3_mark 209 = .ok (.goto (-96), 3) := by decide +kernel
theorem dX3_mark_212 : decode cX3_mark 212 = .ok (.return_, 1) := by decide +kernel
theorem dX3_take_0 : decode cX3_take 0 = .ok (.iconst 0, 1) := by decide +kernel
theorem dX3_take_1 : decode cX3_take 1 = .ok (.istore_n 1, 1) := by decide +kernel
theorem dX3_take_2 : decode cX3_take 2 = .ok (.iload_n 1, 1) := by decide +kernel
theorem dX3_take_3 : decode cX3_take 3 = .ok (.aload_n 0, 1) := by decide +kernel
theorem dX3_take_4 : decode cX3_take 4 = .ok (.getfield 15, 3) := by decide +kernel
theorem dX3_take_7 : decode cX3_take 7 = .ok (.invokevirtual 48, 3) := by decide +kernel
theorem dX3_take_10 : decode cX3_take 10 = .ok (.if_icmp .ge 96, 3) := by decide +kernel
theorem dX3_take_13 : decode cX3_take 13 = .ok (.aload_n 0, 1) := by decide +kernel
theorem dX3_take_14 : decode cX3_take 14 = .ok (.getfield 15, 3) := by decide +kernel
theorem dX3_take_17 : decode cX3_take 17 = .ok (.iload_n 1, 1) := by decide +kernel
theorem dX3_take_18 : decode cX3_take 18 = .ok (.aload_n 0, 1) := by decide +kernel
theorem dX3_take_19 : decode cX3_take 19 = .ok (.getfield 19, 3) := by decide +kernel
theorem dX3_take_22 : decode cX3_take 22 = .ok (.invokevirtual 51, 3) := by decide +kernel
theorem dX3_take_25 : decode cX3_take 25 = .ok (.istore_n 2, 1) := by decide +kernel
theorem dX3_take_26 : decode cX3_take 26 = .ok (.iconst 0, 1) := by decide +kernel
theorem dX3_take_27 : decode cX3_take 27 = .ok (.istore_n 3, 1) := by decide +kernel
theorem dX3_take_28 : decode cX3_take 28 = .ok (.iload_n 3, 1) := by decide +kernel
theorem dX3_take_29 : decode cX3_take 29 = .ok (.aload_n 0, 1) := by decide +kernel
theorem dX3_take_30 : decode cX3_take 30 = .ok (.getfield 42, 3) := by decide +kernel
theorem dX3_take_33 : decode cX3_take 33 = .ok (.bipush 8, 2) := by decide +kernel
theorem dX3_take_35 : decode cX3_take 35 = .ok (.idiv, 1) := by decide +kernel
theorem dX3_take_36 : decode cX3_take 36 = .ok (.if_icmp .ge 64, 3) := by decide +kernel
theorem dX3_take_39 : decode cX3_take 39 = .ok (.aload_n 0, 1) := by decide +kernel
theorem dX3_take_40 : decode cX3_take 40 = .ok (.getfield 9, 3) := by decide +kernel
theorem dX3_take_43 : decode cX3_take 43 = .ok (.iload_n 2, 1) := by decide +kernel
theorem dX3_take_44 : decode cX3_take 44 = .ok (.iload_n 3, 1) := by decide +kernel
theorem dX3_take_45 : decode cX3_take 45 = .ok (.iadd, 1) := by decide +kernel
theorem dX3_take_46 : decode cX3_take 46 = .ok (.invokevirtual 64, 3) := by decide +kernel
theorem dX3_take_49 : decode cX3_take 49 = .ok (.sipush 255, 3) := by decide +kernel
theorem dX3_take_52 : decode cX3_take 52 = .ok (.if_icmp .eq 42, 3) := by decide +kernel
theorem dX3_take_55 : decode cX3_take 55 = .ok (.iconst 1, 1) := by decide +kernel
theorem dX3_take_56 : decode cX3_take 56 = .ok (.iload_n 1, 1) := by decide +kernel
theorem dX3_take_57 : decode cX3_take 57 = .ok (.aload_n 0, 1) := by decide +kernel
theorem dX3_take_58 : decode cX3_take 58 = .ok (.getfield 42, 3) := by decide +kernel
theorem dX3_take_61 : decode cX3_take 61 = .ok (.imul, 1) := by decide +kernel
theorem dX3_take_62 : decode cX3_take 62 = .ok (.iadd, 1) := by decide +kernel
theorem dX3_take_63 : decode cX3_take 63 = .ok (.bipush 8, 2) := by decide +kernel
theorem dX3_take_65 : decode cX3_take 65 = .ok (.iload_n 3, 1) := by decide +kernel
theorem dX3_take_66 : decode cX3_take 66 = .ok (.imul, 1) := by decide +kernel
theorem dX3_take_67 : decode cX3_take 67 = .ok (.iadd, 1) := by decide +kernel
theorem dX3_take_68 : decode cX3_take 68 = .ok (.aload_n 0, 1) := by decide +kernel
theorem dX3_take_69 : decode cX3_take 69 = .ok (.getfield 9, 3) := by decide +kernel
theorem dX3_take_72 : decode cX3_take 72 = .ok (.iload_n 2, 1) := by decide +kernel
theorem dX3_take_73 : decode cX3_take 73 = .ok (.iload_n 3, 1) := by decide +kernel
theorem dX3_take_74 : decode cX3_take 74 = .ok (.iadd, 1) := by decide +kernel
theorem dX3_take_75 : decode cX3_take 75 = .ok (.invokevirtual 64, 3) := by decide +kernel
theorem dX3_take_78 : decode cX3_take 78 = .ok (.invokestatic 79, 3) := by decide +kernel
theorem dX3_take_81 : decode cX3_take 81 = .ok (.iadd, 1) := by decide +kernel
theorem dX3_take_82 : decode cX3_take 82 = .ok (.istore 4, 2) := by decide +kernel
theorem dX3_take_84 : decode cX3_take 84 = .ok (.aload_n 0, 1) := by decide +kernel
theorem dX3_take_85 : decode cX3_take 85 = .ok (.iload 4, 2) := by decide +kernel
theorem dX3_take_87 : decode cX3_take 87 = .ok (.iconst 1, 1) := by decide +kernel
theorem dX3_take_88 : decode cX3_take 88 = .ok (.invokevirtual 82, 3) := by decide +kernel
theorem dX3_take_91 : decode cX3_take 91 = .ok (.iload 4, 2) := by decide +kernel
theorem dX3_take_93 : decode cX3_take 93 = .ok (.ireturn, 1) := by decide +kernel
theorem dX3_take_94 : decode cX3_take 94 = .ok (.iinc 3 1, 3) := by decide +kernel
theorem dX3_take_97 : decode cX3_take 97 = .ok (.goto (-69), 3) := by decide +kernel
theorem dX3_take_100 : decode cX3_take 100 = .ok (.iinc 1 1, 3) := by decide +kernel
theorem dX3_take_103 : decode cX3_take 103 = .ok (.goto (-101), 3) := by decide +kernel
theorem dX3_take_106 : decode cX3_take 106 = .ok (.iconst (-1), 1) := by decide +kernel
theorem dX3_take_107 : decode cX3_take 107 = .ok (.ireturn, 1) := by decide +kernel
theorem dX4_gain_0 : decode cX4_gain 0 = .ok (.aload_n 0, 1) := by decide +kernel
theorem dX4_gain_1 : decode cX4_gain 1 = .ok (.getfield 19, 3) := by decide +kernel
theorem dX4_gain_4 : decode cX4_gain 4 = .ok (.invokevirtual 87, 3) := by decide +kernel
theorem dX4_gain_7 : decode cX4_gain 7 = .ok (.istore_n 3, 1) := by decide +kernel
theorem dX4_gain_8 : decode cX4_gain 8 = .ok (.iload_n 3, 1) := by decide +kernel
theorem dX4_gain_9 : decode cX4_gain 9 = .ok (.iconst (-1), 1) := by decide +kernel
theorem dX4_gain_10 : decode cX4_gain 10 = .ok (.if_icmp .ne 4, 3) := by decide +kernel
theorem dX4_gain_13 : decode cX4_gain 13 = .ok (.return_, 1) := by decide +kernel
theorem dX4_gain_14 : decode cX4_gain 14 = .ok (.aload_n 0, 1) := by decide +kernel
theorem dX4_gain_15 : decode cX4_gain 15 = .ok (.getfield 9, 3) := by decide +kernel
theorem dX4_gain_18 : decode cX4_gain 18 = .ok (.iload_n 3, 1) := by decide +kernel
theorem dX4_gain_19 : decode cX4_gain 19 = .ok (.sipush 1024, 3) := by decide +kernel
theorem dX4_gain_22 : decode cX4_gain 22 = .ok (.imul, 1) := by decide +kernel
theorem dX4_gain_23 : decode cX4_gain 23 = .ok (.iload_n 3, 1) := by decide +kernel
theorem dX4_gain_24 : decode cX4_gain 24 = .ok (.sipush 1024, 3) := by decide +kernel
theorem dX4_gain_27 : decode cX4_gain 27 = .ok (.imul, 1) := by decide +kernel
theorem dX4_gain_28 : decode cX4_gain 28 = .ok (.sipush 1024, 3) := by decide +kernel
theorem dX4_gain_31 : decode cX4_gain 31 = .ok (.iadd, 1) := by decide +kernel
theorem dX4_gain_32 : decode cX4_gain 32 = .ok (.iconst 0, 1) := by decide +kernel
theorem dX4_gain_33 : decode cX4_gain 33 = .ok (.invokevirtual 61, 3) := by decide +kernel
theorem dX4_gain_36 : decode cX4_gain 36 = .ok (.aload_n 0, 1) := by decide +kernel
theorem dX4_gain_37 : decode cX4_gain 37 = .ok (.getfield 9, 3) := by decide +kernel
theorem dX4_gain_40 : decode cX4_gain 40 = .ok (.iload_n 2, 1) := by decide +kernel
theorem dX4_gain_41 : decode cX4_gain 41 = .ok (.iload_n 3, 1) := by decide +kernel
theorem dX4_gain_42 : decode cX4_gain 42 = .ok (.invokevirtual 37, 3) := by decide +kernel
theorem dX4_gain_45 : decode cX4_gain 45 = .ok (.aload_n 0, 1) := by decide +kernel
theorem dX4_gain_46 : decode cX4_gain 46 = .ok (.getfield 9, 3) := by decide +kernel
theorem dX4_gain_49 : decode cX4_gain 49 = .ok (.iload_n 1, 1) := by decide +kernel
theorem dX4_gain_50 : decode cX4_gain 50 = .ok (.bipush 28, 2) := by decide +kernel
theorem dX4_gain_52 : decode cX4_gain 52 = .ok (.iadd, 1) := by decide +kernel
theorem dX4_gain_53 : decode cX4_gain 53 = .ok (.aload_n 0, 1) := by decide +kernel
theorem dX4_gain_54 : decode cX4_gain 54 = .ok (.getfield 9, 3) := by decide +kernel
theorem dX4_gain_57 : decode cX4_gain 57 = .ok (.iload_n 1, 1) := by decide +kernel
theorem dX4_gain_58 : decode cX4_gain 58 = .ok (.bipush 28, 2) := by decide +kernel
theorem dX4_gain_60 : decode cX4_gain 60 = .ok (.iadd, 1) := by decide +kernel
theorem dX4_gain_61 : decode cX4_gain 61 = .ok (.invokevirtual 34, 3) := by decide +kernel
theorem dX4_gain_64 : decode cX4_gain 64 = .ok (.iconst 2, 1) := by decide +kernel
theorem dX4_gain_65 : decode cX4_gain 65 = .ok (.iadd, 1) := by decide +kernel
theorem dX4_gain_66 : decode cX4_gain 66 = .ok (.invokevirtual 37, 3) := by decide +kernel
theorem dX4_gain_69 : decode cX4_gain 69 = .ok (.return_, 1) := by decide +kernel
theorem dX4_rowPointerAt_0 : decode cX4_rowPointerAt 0 = .ok (.aload_n 0, 1) := by decide +kernel
theorem dX4_rowPointerAt_1 : decode cX4_rowPointerAt 1 = .ok (.getfield 9, 3) := by decide +kernel
theorem dX4_rowPointerAt_4 : decode cX4_rowPointerAt 4 = .ok (.iload_n 1, 1) := by decide +kernel
theorem dX4_rowPointerAt_5 : decode cX4_rowPointerAt 5 = .ok (.bipush 92, 2) := by decide +kernel
theorem dX4_rowPointerAt_7 : decode cX4_rowPointerAt 7 = .ok (.iadd, 1) := by decide +kernel
theorem dX4_rowPointerAt_8 : decode cX4_rowPointerAt 8 = .ok (.invokevirtual 34, 3) := by decide +kernel
theorem dX4_rowPointerAt_11 : decode cX4_rowPointerAt 11 = .ok (.sipush 1024, 3) := by decide +kernel
theorem dX4_rowPointerAt_14 : decode cX4_rowPointerAt 14 = .ok (.imul, 1) := by decide +kernel
theorem dX4_rowPointerAt_15 : decode cX4_rowPointerAt 15 = .ok (.iconst 4, 1) := by decide +kernel
theorem dX4_rowPointerAt_16 : decode cX4_rowPointerAt 16 = .ok (.iload_n 2, 1) := by decide +kernel
theorem dX4_rowPointerAt_17 : decode cX4_rowPointerAt 17 = .ok (.sipush 268, 3) := by decide +kernel
theorem dX4_rowPointerAt_20 : decode cX4_rowPointerAt 20 = .ok (.isub, 1) := by decide +kernel
theorem dX4_rowPointerAt_21 : decode cX4_rowPointerAt 21 = .ok (.sipush 256, 3) := by decide +kernel
theorem dX4_rowPointerAt_24 : decode cX4_rowPointerAt 24 = .ok (.idiv, 1) := by decide +kernel
theorem dX4_rowPointerAt_25 : decode cX4_rowPointerAt 25 = .ok (.imul, 1) := by decide +kernel
theorem dX4_rowPointerAt_26 : decode cX4_rowPointerAt 26 = .ok (.iadd, 1) := by decide +kernel
theorem dX4_rowPointerAt_27 : decode cX4_rowPointerAt 27 = .ok (.ireturn, 1) := by decide +kernel
theorem dX4_addBlock_0 : decode cX4_addBlock 0 = .ok (.aload_n 0, 1) := by decide +kernel
theorem dX4_addBlock_1 : decode cX4_addBlock 1 = .ok (.getfield 15, 3) := by decide +kernel
theorem dX4_addBlock_4 : decode cX4_addBlock 4 = .ok (.iload_n 1, 1) := by decide +kernel
theorem dX4_addBlock_5 : decode cX4_addBlock 5 = .ok (.invokevirtual 23, 3) := by decide +kernel
theorem dX4_addBlock_8 : decode cX4_addBlock 8 = .ok (.istore_n 3, 1) := by decide +kernel
theorem dX4_addBlock_9 : decode cX4_addBlock 9 = .ok (.iload_n 2, 1) := by decide +kernel
theorem dX4_addBlock_10 : decode cX4_addBlock 10 = .ok (.bipush 12, 2) := by decide +kernel
theorem dX4_addBlock_12 : decode cX4_addBlock 12 = .ok (.if_icmp .ne 12, 3) := by decide +kernel
theorem dX4_addBlock_15 : decode cX4_addBlock 15 = .ok (.aload_n 0, 1) := by decide +kernel
theorem dX4_addBlock_16 : decode cX4_addBlock 16 = .ok (.iload_n 3, 1) := by decide +kernel
theorem dX4_addBlock_17 : decode cX4_addBlock 17 = .ok (.iload_n 3, 1) := by decide +kernel
theorem dX4_addBlock_18 : decode cX4_addBlock 18 = .ok (.bipush 88, 2) := by decide +kernel
theorem dX4_addBlock_20 : decode cX4_addBlock 20 = .ok (.iadd, 1) := by decide +kernel
theorem dX4_addBlock_21 : decode cX4_addBlock 21 = .ok (.invokevirtual 77, 3) := by decide +kernel
theorem dX4_addBlock_24 : decode cX4_addBlock 24 = .ok (.iload_n 2, 1) := by decide +kernel
theorem dX4_addBlock_25 : decode cX4_addBlock 25 = .ok (.sipush 268, 3) := by decide +kernel
theorem dX4_addBlock_28 : decode cX4_addBlock 28 = .ok (.if_icmp .ne 12, 3) := by decide +kernel
theorem dX4_addBlock_31 : decode cX4_addBlock 31 = .ok (.aload_n 0, 1) := by decide +kernel
theorem dX4_addBlock_32 : decode cX4_addBlock 32 = .ok (.iload_n 3, 1) := by decide +kernel
theorem dX4_addBlock_33 : decode cX4_addBlock 33 = .ok (.iload_n 3, 1) := by decide +kernel
theorem dX4_addBlock_34 : decode cX4_addBlock 34 = .ok (.bipush 92, 2) := by decide +kernel
theorem dX4_addBlock_36 : decode cX4_addBlock 36 = .ok (.iadd, 1) := by decide +kernel
theorem dX4_addBlock_37 : decode cX4_addBlock 37 = .ok (.invokevirtual 77, 3) := by decide +kernel
theorem dX4_addBlock_40 : decode cX4_addBlock 40 = .ok (.iload_n 2, 1) := by decide +kernel
theorem dX4_addBlock_41 : decode cX4_addBlock 41 = .ok (.invokestatic 80, 3) := by decide +kernel
theorem dX4_addBlock_44 : decode cX4_addBlock 44 = .ok (.ifCond .eq 14, 3) := by decide +kernel
theorem dX4_addBlock_47 : decode cX4_addBlock 47 = .ok (.aload_n 0, 1) := by decide +kernel
theorem dX4_addBlock_48 : decode cX4_addBlock 48 = .ok (.iload_n 3, 1) := by decide +kernel
theorem dX4_addBlock_49 : decode cX4_addBlock 49 = .ok (.aload_n 0, 1) := by decide +kernel
theorem dX4_addBlock_50 : decode cX4_addBlock 50 = .ok (.iload_n 3, 1) := by decide +kernel
theorem dX4_addBlock_51 : decode cX4_addBlock 51 = .ok (.iload_n 2, 1) := by decide +kernel
theorem dX4_addBlock_52 : decode cX4_addBlock 52 = .ok (.invokevirtual 84, 3) := by decide +kernel
theorem dX4_addBlock_55 : decode cX4_addBlock 55 = .ok (.invokevirtual 77, 3) := by decide +kernel
theorem dX4_addBlock_58 : decode cX4_addBlock 58 = .ok (.aload_n 0, 1) := by decide +kernel
theorem dX4_addBlock_59 : decode cX4_addBlock 59 = .ok (.iload_n 3, 1) := by decide +kernel
theorem dX4_addBlock_60 : decode cX4_addBlock 60 = .ok (.aload_n 0, 1) := by decide +kernel
theorem dX4_addBlock_61 : decode cX4_addBlock 61 = .ok (.iload_n 3, 1) := by decide +kernel
theorem dX4_addBlock_62 : decode cX4_addBlock 62 = .ok (.iload_n 2, 1) := by decide +kernel
theorem dX4_addBlock_63 : decode cX4_addBlock 63 = .ok (.invokevirtual 74, 3) := by decide +kernel
theorem dX4_addBlock_66 : decode cX4_addBlock 66 = .ok (.invokevirtual 77, 3) := by decide +kernel
theorem dX4_addBlock_69 : decode cX4_addBlock 69 = .ok (.return_, 1) := by decide +kernel
theorem dX4_setSize_0 : decode cX4_setSize 0 = .ok (.aload_n 0, 1) := by decide +kernel
theorem dX4_setSize_1 : decode cX4_setSize 1 = .ok (.getfield 9, 3) := by decide +kernel
theorem dX4_setSize_4 : decode cX4_setSize 4 = .ok (.aload_n 0, 1) := by decide +kernel
theorem dX4_setSize_5 : decode cX4_setSize 5 = .ok (.getfield 15, 3) := by decide +kernel
theorem dX4_setSize_8 : decode cX4_setSize 8 = .ok (.iload_n 1, 1) := by decide +kernel
theorem dX4_setSize_9 : decode cX4_setSize 9 = .ok (.invokevirtual 23, 3) := by decide +kernel
theorem dX4_setSize_12 : decode cX4_setSize 12 = .ok (.iconst 4, 1) := by decide +kernel
theorem dX4_setSize_13 : decode cX4_setSize 13 = .ok (.iadd, 1) := by decide +kernel
theorem dX4_setSize_14 : decode cX4_setSize 14 = .ok (.iload_n 2, 1) := by decide +kernel
theorem dX4_setSize_15 : decode cX4_setSize 15 = .ok (.invokevirtual 37, 3) := by decide +kernel
theorem dX4_setSize_18 : decode cX4_setSize 18 = .ok (.return_, 1) := by decide +kernel
theorem dX4_blockOf_0 : decode cX4_blockOf 0 = .ok (.aload_n 0, 1) := by decide +kernel
theorem dX4_blockOf_1 : decode cX4_blockOf 1 = .ok (.getfield 9, 3) := by decide +kernel
theorem dX4_blockOf_4 : decode cX4_blockOf 4 = .ok (.aload_n 0, 1) := by decide +kernel
theorem dX4_blockOf_5 : decode cX4_blockOf 5 = .ok (.aload_n 0, 1) := by decide +kernel
theorem dX4_blockOf_6 : decode cX4_blockOf 6 = .ok (.getfield 15, 3) := by decide +kernel
theorem dX4_blockOf_9 : decode cX4_blockOf 9 = .ok (.iload_n 1, 1) := by decide +kernel
theorem dX4_blockOf_10 : decode cX4_blockOf 10 = .ok (.invokevirtual 23, 3) := by decide +kernel
theorem dX4_blockOf_13 : decode cX4_blockOf 13 = .ok (.iload_n 2, 1) := by decide +kernel
theorem dX4_blockOf_14 : decode cX4_blockOf 14 = .ok (.invokevirtual 74, 3) := by decide +kernel
theorem dX4_blockOf_17 : decode cX4_blockOf 17 = .ok (.invokevirtual 34, 3) := by decide +kernel
theorem dX4_blockOf_20 : decode cX4_blockOf 20 = .ok (.ireturn, 1) := by decide +kernel
theorem dX4_addDirectoryBlock_0 : decode cX4_addDirectoryBlock 0 = .ok (.aload_n 0, 1) := by decide +kernel
theorem dX4_addDirectoryBlock_1 : decode cX4_addDirectoryBlock 1 = .ok (.iload_n 1, 1) := by decide +kernel
theorem dX4_addDirectoryBlock_2 : decode cX4_addDirectoryBlock 2 = .ok (.invokevirtual 65, 3) := by decide +kernel
theorem dX4_addDirectoryBlock_5 : decode cX4_addDirectoryBlock 5 = .ok (.invokestatic 68, 3) := by decide +kernel
theorem dX4_addDirectoryBlock_8 : decode cX4_addDirectoryBlock 8 = .ok (.istore_n 2, 1) := by decide +kernel
theorem dX4_addDirectoryBlock_9 : decode cX4_addDirectoryBlock 9 = .ok (.aload_n 0, 1) := by decide +kernel
theorem dX4_addDirectoryBlock_10 : decode cX4_addDirectoryBlock 10 = .ok (.iload_n 1, 1) := by decide +kernel
theorem dX4_addDirectoryBlock_11 : decode cX4_addDirectoryBlock 11 = .ok (.iload_n 2, 1) := by decide +kernel
theorem dX4_addDirectoryBlock_12 : decode cX4_addDirectoryBlock 12 = .ok (.invokevirtual 99, 3) := by decide +kernel
theorem dX4_addDirectoryBlock_15 : decode cX4_addDirectoryBlock 15 = .ok (.aload_n 0, 1) := by decide +kernel
theorem dX4_addDirectoryBlock_16 : decode cX4_addDirectoryBlock 16 = .ok (.iload_n 1, 1) := by decide +kernel
theorem dX4_addDirectoryBlock_17 : decode cX4_addDirectoryBlock 17 = .ok (.iload_n 2, 1) := by decide +kernel
theorem dX4_addDirectoryBlock_18 : decode cX4_addDirectoryBlock 18 = .ok (.iconst 1, 1) := by decide +kernel
theorem dX4_addDirectoryBlock_19 : decode cX4_addDirectoryBlock 19 = .ok (.iadd, 1) := by decide +kernel
theorem dX4_addDirectoryBlock_20 : decode cX4_addDirectoryBlock 20 = .ok (.sipush 1024, 3) := by decide +kernel
theorem dX4_addDirectoryBlock_23 : decode cX4_addDirectoryBlock 23 = .ok (.imul, 1) := by decide +kernel
theorem dX4_addDirectoryBlock_24 : decode cX4_addDirectoryBlock 24 = .ok (.invokevirtual 102, 3) := by decide +kernel
theorem dX4_addDirectoryBlock_27 : decode cX4_addDirectoryBlock 27 = .ok (.aload_n 0, 1) := by decide +kernel
theorem dX4_addDirectoryBlock_28 : decode cX4_addDirectoryBlock 28 = .ok (.iload_n 1, 1) := by decide +kernel
theorem dX4_addDirectoryBlock_29 : decode cX4_addDirectoryBlock 29 = .ok (.iload_n 2, 1) := by decide +kernel
theorem dX4_addDirectoryBlock_30 : decode cX4_addDirectoryBlock 30 = .ok (.invokevirtual 105, 3) := by decide +kernel
theorem dX4_addDirectoryBlock_33 : decode cX4_addDirectoryBlock 33 = .ok (.ireturn, 1) := by decide +kernel
theorem dX5_layDots_0 : decode cX5_layDots 0 = .ok (.iload_n 1, 1) := by decide +kernel
theorem dX5_layDots_1 : decode cX5_layDots 1 = .ok (.sipush 1024, 3) := by decide +kernel
theorem dX5_layDots_4 : decode cX5_layDots 4 = .ok (.imul, 1) := by decide +kernel
theorem dX5_layDots_5 : decode cX5_layDots 5 = .ok (.istore 4, 2) := by decide +kernel
theorem dX5_layDots_7 : decode cX5_layDots 7 = .ok (.aload_n 0, 1) := by decide +kernel
theorem dX5_layDots_8 : decode cX5_layDots 8 = .ok (.getfield 15, 3) := by decide +kernel
theorem dX5_layDots_11 : decode cX5_layDots 11 = .ok (.iload 4, 2) := by decide +kernel
theorem dX5_layDots_13 : decode cX5_layDots 13 = .ok (.iload_n 2, 1) := by decide +kernel
theorem dX5_layDots_14 : decode cX5_layDots 14 = .ok (.invokevirtual 93, 3) := by decide +kernel
theorem dX5_layDots_17 : decode cX5_layDots 17 = .ok (.aload_n 0, 1) := by decide +kernel
theorem dX5_layDots_18 : decode cX5_layDots 18 = .ok (.getfield 15, 3) := by decide +kernel
theorem dX5_layDots_21 : decode cX5_layDots 21 = .ok (.iload 4, 2) := by decide +kernel
theorem dX5_layDots_23 : decode cX5_layDots 23 = .ok (.iconst 4, 1) := by decide +kernel
theorem dX5_layDots_24 : decode cX5_layDots 24 = .ok (.iadd, 1) := by decide +kernel
theorem dX5_layDots_25 : decode cX5_layDots 25 = .ok (.bipush 12, 2) := by decide +kernel
theorem dX5_layDots_27 : decode cX5_layDots 27 = .ok (.invokevirtual 89, 3) := by decide +kernel
theorem dX5_layDots_30 : decode cX5_layDots 30 = .ok (.aload_n 0, 1) := by decide +kernel
theorem dX5_layDots_31 : decode cX5_layDots 31 = .ok (.getfield 15, 3) := by decide +kernel
theorem dX5_layDots_34 : decode cX5_layDots 34 = .ok (.iload 4, 2) := by decide +kernel
theorem dX5_layDots_36 : decode cX5_layDots 36 = .ok (.bipush 6, 2) := by decide +kernel
theorem dX5_layDots_38 : decode cX5_layDots 38 = .ok (.iadd, 1) := by decide +kernel
theorem dX5_layDots_39 : decode cX5_layDots 39 = .ok (.iconst 1, 1) := by decide +kernel
theorem dX5_layDots_40 : decode cX5_layDots 40 = .ok (.invokevirtual 96, 3) := by decide +kernel
theorem dX5_layDots_43 : decode cX5_layDots 43 = .ok (.aload_n 0, 1) := by decide +kernel
theorem dX5_layDots_44 : decode cX5_layDots 44 = .ok (.getfield 15, 3) := by decide +kernel
theorem dX5_layDots_47 : decode cX5_layDots 47 = .ok (.iload 4, 2) := by decide +kernel
theorem dX5_layDots_49 : decode cX5_layDots 49 = .ok (.bipush 7, 2) := by decide +kernel
theorem dX5_layDots_51 : decode cX5_layDots 51 = .ok (.iadd, 1) := by decide +kernel
theorem dX5_layDots_52 : decode cX5_layDots 52 = .ok (.iconst 2, 1) := by decide +kernel
theorem dX5_layDots_53 : decode cX5_layDots 53 = .ok (.invokevirtual 96, 3) := by decide +kernel
theorem dX5_layDots_56 : decode cX5_layDots 56 = .ok (.aload_n 0, 1) := by decide +kernel
theorem dX5_layDots_57 : decode cX5_layDots 57 = .ok (.getfield 15, 3) := by decide +kernel
theorem dX5_layDots_60 : decode cX5_layDots 60 = .ok (.iload 4, 2) := by decide +kernel
theorem dX5_layDots_62 : decode cX5_layDots 62 = .ok (.bipush 8, 2) := by decide +kernel
theorem dX5_layDots_64 : decode cX5_layDots 64 = .ok (.iadd, 1) := by decide +kernel
theorem dX5_layDots_65 : decode cX5_layDots 65 = .ok (.bipush 46, 2) := by decide +kernel
theorem dX5_layDots_67 : decode cX5_layDots 67 = .ok (.invokevirtual 96, 3) := by decide +kernel
theorem dX5_layDots_70 : decode cX5_layDots 70 = .ok (.iload 4, 2) := by decide +kernel
theorem dX5_layDots_72 : decode cX5_layDots 72 = .ok (.bipush 12, 2) := by decide +kernel
theorem dX5_layDots_74 : decode cX5_layDots 74 = .ok (.iadd, 1) := by decide +kernel
theorem dX5_layDots_75 : decode cX5_layDots 75 = .ok (.istore 5, 2) := by decide +kernel
theorem dX5_layDots_77 : decode cX5_layDots 77 = .ok (.aload_n 0, 1) := by decide +kernel
theorem dX5_layDots_78 : decode cX5_layDots 78 = .ok (.getfield 15, 3) := by decide +kernel
theorem dX5_layDots_81 : decode cX5_layDots 81 = .ok (.iload 5, 2) := by decide +kernel
theorem dX5_layDots_83 : decode cX5_layDots 83 = .ok (.iload_n 3, 1) := by decide +kernel
theorem dX5_layDots_84 : decode cX5_layDots 84 = .ok (.invokevirtual 93, 3) := by decide +kernel
theorem dX5_layDots_87 : decode cX5_layDots 87 = .ok (.aload_n 0, 1) := by decide +kernel
theorem dX5_layDots_88 : decode cX5_layDots 88 = .ok (.getfield 15, 3) := by decide +kernel
theorem dX5_layDots_91 : decode cX5_layDots 91 = .ok (.iload 5, 2) := by decide +kernel
theorem dX5_layDots_93 : decode cX5_layDots 93 = .ok (.iconst 4, 1) := by decide +kernel
theorem dX5_layDots_94 : decode cX5_layDots 94 = .ok (.iadd, 1) := by decide +kernel
theorem dX5_layDots_95 : decode cX5_layDots 95 = .ok (.sipush 1012, 3) := by decide +kernel
theorem dX5_layDots_98 : decode cX5_layDots 98 = .ok (.invokevirtual 89, 3) := by decide +kernel
theorem dX5_layDots_101 : decode cX5_layDots 101 = .ok (.aload_n 0, 1) := by decide +kernel
theorem dX5_layDots_102 : decode cX5_layDots 102 = .ok (.getfield 15, 3) := by decide +kernel
theorem dX5_layDots_105 : decode cX5_layDots 105 = .ok (.iload 5, 2) := by decide +kernel
theorem dX5_layDots_107 : decode cX5_layDots 107 = .ok (.bipush 6, 2) := by decide +kernel
theorem dX5_layDots_109 : decode cX5_layDots 109 = .ok (.iadd, 1) := by decide +kernel
theorem dX5_layDots_110 : decode cX5_layDots 110 = .ok (.iconst 2, 1) := by decide +kernel
theorem dX5_layDots_111 : decode cX5_layDots 111 = .ok (.invokevirtual 96, 3) := by decide +kernel
theorem dX5_layDots_114 : decode cX5_layDots 114 = .ok (.aload_n 0, 1) := by decide +kernel
theorem dX5_layDots_115 : decode cX5_layDots 115 = .ok (.getfield 15, 3) := by decide +kernel
theorem dX5_layDots_118 : decode cX5_layDots 118 = .ok (.iload 5, 2) := by decide +kernel
theorem dX5_layDots_120 : decode cX5_layDots 120 = .ok (.bipush 7, 2) := by decide +kernel
theorem dX5_layDots_122 : decode cX5_layDots 122 = .ok (.iadd, 1) := by decide +kernel
theorem dX5_layDots_123 : decode cX5_layDots 123 = .ok (.iconst 2, 1) := by decide +kernel
theorem dX5_layDots_124 : decode cX5_layDots 124 = .ok (.invokevirtual 96, 3) := by decide +kernel
theorem dX5_layDots_127 : decode cX5_layDots 127 = .ok (.aload_n 0, 1) := by decide +kernel
theorem dX5_layDots_128 : decode cX5_layDots 128 = .ok (.getfield 15, 3) := by decide +kernel
theorem dX5_layDots_131 : decode cX5_layDots 131 = .ok (.iload 5, 2) := by decide +kernel
theorem dX5_layDots_133 : decode cX5_layDots 133 = .ok (.bipush 8, 2) := by decide +kernel
theorem dX5_layDots_135 : decode cX5_layDots 135 = .ok (.iadd, 1) := by decide +kernel
theorem dX5_layDots_136 : decode cX5_layDots 136 = .ok (.sipush 11822, 3) := by decide +kernel
theorem dX5_layDots_139 : decode cX5_layDots 139 = .ok (.invokevirtual 89, 3) := by decide +kernel
theorem dX5_layDots_142 : decode cX5_layDots 142 = .ok (.return_, 1) := by decide +kernel
theorem dX3_free_0 : decode cX3_free 0 = .ok (.aload_n 0, 1) := by decide +kernel
theorem dX3_free_1 : decode cX3_free 1 = .ok (.getfield 9, 3) := by decide +kernel
theorem dX3_free_4 : decode cX3_free 4 = .ok (.sipush 1024, 3) := by decide +kernel
theorem dX3_free_7 : decode cX3_free 7 = .ok (.aload_n 0, 1) := by decide +kernel
theorem dX3_free_8 : decode cX3_free 8 = .ok (.getfield 23, 3) := by decide +kernel
theorem dX3_free_11 : decode cX3_free 11 = .ok (.iadd, 1) := by decide +kernel
theorem dX3_free_12 : decode cX3_free 12 = .ok (.invokevirtual 71, 3) := by decide +kernel
theorem dX3_free_15 : decode cX3_free 15 = .ok (.ireturn, 1) := by decide +kernel
theorem dX0_format_0 : decode cX0_format 0 = .ok (.aload_n 0, 1) := by decide +kernel
theorem dX0_format_1 : decode cX0_format 1 = .ok (.getfield 30, 3) := by decide +kernel
theorem dX0_format_4 : decode cX0_format 4 = .ok (.iload_n 1, 1) := by decide +kernel
theorem dX0_format_5 : decode cX0_format 5 = .ok (.iload_n 2, 1) := by decide +kernel
theorem dX0_format_6 : decode cX0_format 6 = .ok (.invokevirtual 101, 3) := by decide +kernel
theorem dX0_format_9 : decode cX0_format 9 = .ok (.ifCond .ne 13, 3) := by decide +kernel
theorem dX0_format_12 : decode cX0_format 12 = .ok (.new 105, 3) := by decide +kernel
theorem dX0_format_15 : decode cX0_format 15 = .ok (.dup, 1) := by decide +kernel
theorem dX0_format_16 : decode cX0_format 16 = .ok (.ldc 107, 2) := by decide +kernel
theorem dX0_format_18 : decode cX0_format 18 = .ok (.invokespecial 109, 3) := by decide +kernel
theorem dX0_format_21 : decode cX0_format 21 = .ok (.athrow, 1) := by decide +kernel
theorem dX0_format_22 : decode cX0_format 22 = .ok (.aload_n 0, 1) := by decide +kernel
theorem dX0_format_23 : decode cX0_format 23 = .ok (.getfield 23, 3) := by decide +kernel
theorem dX0_format_26 : decode cX0_format 26 = .ok (.iconst 0, 1) := by decide +kernel
theorem dX0_format_27 : decode cX0_format 27 = .ok (.aload_n 0, 1) := by decide +kernel
theorem dX0_format_28 : decode cX0_format 28 = .ok (.getfield 23, 3) := by decide +kernel
theorem dX0_format_31 : decode cX0_format 31 = .ok (.invokevirtual 112, 3) := by decide +kernel
theorem dX0_format_34 : decode cX0_format 34 = .ok (.iconst 0, 1) := by decide +kernel
theorem dX0_format_35 : decode cX0_format 35 = .ok (.invokevirtual 116, 3) := by decide +kernel
theorem dX0_format_38 : decode cX0_format 38 = .ok (.aload_n 0, 1) := by decide +kernel
theorem dX0_format_39 : decode cX0_format 39 = .ok (.getfield 39, 3) := by decide +kernel
theorem dX0_format_42 : decode cX0_format 42 = .ok (.invokevirtual 120, 3) := by decide +kernel
theorem dX0_format_45 : decode cX0_format 45 = .ok (.aload_n 0, 1) := by decide +kernel
theorem dX0_format_46 : decode cX0_format 46 = .ok (.getfield 43, 3) := by decide +kernel
theorem dX0_format_49 : decode cX0_format 49 = .ok (.invokevirtual 120, 3) := by decide +kernel
theorem dX0_format_52 : decode cX0_format 52 = .ok (.aload_n 0, 1) := by decide +kernel
theorem dX0_format_53 : decode cX0_format 53 = .ok (.getfield 69, 3) := by decide +kernel
theorem dX0_format_56 : decode cX0_format 56 = .ok (.aload_n 0, 1) := by decide +kernel
theorem dX0_format_57 : decode cX0_format 57 = .ok (.getfield 23, 3) := by decide +kernel
theorem dX0_format_60 : decode cX0_format 60 = .ok (.iload_n 3, 1) := by decide +kernel
theorem dX0_format_61 : decode cX0_format 61 = .ok (.invokevirtual 123, 3) := by decide +kernel
theorem dX0_format_64 : decode cX0_format 64 = .ok (.iconst 1, 1) := by decide +kernel
theorem dX0_format_65 : decode cX0_format 65 = .ok (.istore 4, 2) := by decide +kernel
theorem dX0_format_67 : decode cX0_format 67 = .ok (.iload 4, 2) := by decide +kernel
theorem dX0_format_69 : decode cX0_format 69 = .ok (.bipush 11, 2) := by decide +kernel
theorem dX0_format_71 : decode cX0_format 71 = .ok (.if_icmp .gt 17, 3) := by decide +kernel
theorem dX0_format_74 : decode cX0_format 74 = .ok (.aload_n 0, 1) := by decide +kernel
theorem dX0_format_75 : decode cX0_format 75 = .ok (.getfield 43, 3) := by decide +kernel
theorem dX0_format_78 : decode cX0_format 78 = .ok (.invokevirtual 126, 3) := by decide +kernel
theorem dX0_format_81 : decode cX0_format 81 = .ok (.pop, 1) := by decide +kernel
theorem dX0_format_82 : decode cX0_format 82 = .ok (.iinc 4 1, 3) := by decide +kernel
theorem dX0_format_85 : decode cX0_format 85 = .ok (.goto (-18), 3) := by decide +kernel
theorem dX0_format_88 : decode cX0_format 88 = .ok (.aload_n 0, 1) := by decide +kernel
theorem dX0_format_89 : decode cX0_format 89 = .ok (.getfield 51, 3) := by decide +kernel
theorem dX0_format_92 : decode cX0_format 92 = .ok (.iconst 2, 1) := by decide +kernel
theorem dX0_format_93 : decode cX0_format 93 = .ok (.iconst 1, 1) := by decide +kernel
theorem dX0_format_94 : decode cX0_format 94 = .ok (.invokevirtual 129, 3) := by decide +kernel
theorem dX0_format_97 : decode cX0_format 97 = .ok (.aload_n 0, 1) := by decide +kernel
theorem dX0_format_98 : decode cX0_format 98 = .ok (.getfield 51, 3) := by decide +kernel
theorem dX0_format_101 : decode cX0_format 101 = .ok (.iconst 2, 1) := by decide +kernel
theorem dX0_format_102 : decode cX0_format 102 = .ok (.iconst 1, 1) := by decide +kernel
theorem dX0_format_103 : decode cX0_format 103 = .ok (.invokevirtual 133, 3) := by decide +kernel
theorem dX0_format_106 : decode cX0_format 106 = .ok (.aload_n 0, 1) := by decide +kernel
theorem dX0_format_107 : decode cX0_format 107 = .ok (.getfield 60, 3) := by decide +kernel
theorem dX0_format_110 : decode cX0_format 110 = .ok (.aload_n 0, 1) := by decide +kernel
theorem dX0_format_111 : decode cX0_format 111 = .ok (.getfield 51, 3) := by decide +kernel
theorem dX0_format_114 : decode cX0_format 114 = .ok (.iconst 2, 1) := by decide +kernel
theorem dX0_format_115 : decode cX0_format 115 = .ok (.invokevirtual 136, 3) := by decide +kernel
theorem dX0_format_118 : decode cX0_format 118 = .ok (.iconst 2, 1) := by decide +kernel
theorem dX0_format_119 : decode cX0_format 119 = .ok (.iconst 2, 1) := by decide +kernel
theorem dX0_format_120 : decode cX0_format 120 = .ok (.invokevirtual 139, 3) := by decide +kernel
theorem dX0_format_123 : decode cX0_format 123 = .ok (.aload_n 0, 1) := by decide +kernel
theorem dX0_format_124 : decode cX0_format 124 = .ok (.iconst 1, 1) := by decide +kernel
theorem dX0_format_125 : decode cX0_format 125 = .ok (.putfield 142, 3) := by decide +kernel
theorem dX0_format_128 : decode cX0_format 128 = .ok (.aload_n 0, 1) := by decide +kernel
theorem dX0_format_129 : decode cX0_format 129 = .ok (.iconst 2, 1) := by decide +kernel
theorem dX0_format_130 : decode cX0_format 130 = .ok (.putfield 89, 3) := by decide +kernel
theorem dX0_format_133 : decode cX0_format 133 = .ok (.aload_n 0, 1) := by decide +kernel
theorem dX0_format_134 : decode cX0_format 134 = .ok (.getfield 39, 3) := by decide +kernel
theorem dX0_format_137 : decode cX0_format 137 = .ok (.invokevirtual 146, 3) := by decide +kernel
theorem dX0_format_140 : decode cX0_format 140 = .ok (.ireturn, 1) := by decide +kernel
theorem dX3_isUsed_0 : decode cX3_isUsed 0 = .ok (.aload_n 0, 1) := by decide +kernel
theorem dX3_isUsed_1 : decode cX3_isUsed 1 = .ok (.getfield 42, 3) := by decide +kernel
theorem dX3_isUsed_4 : decode cX3_isUsed 4 = .ok (.iconst 1, 1) := by decide +kernel
theorem dX3_isUsed_5 : decode cX3_isUsed 5 = .ok (.if_icmp .lt 8, 3) := by decide +kernel
theorem dX3_isUsed_8 : decode cX3_isUsed 8 = .ok (.iload_n 1, 1) := by decide +kernel
theorem dX3_isUsed_9 : decode cX3_isUsed 9 = .ok (.iconst 1, 1) := by decide +kernel
theorem dX3_isUsed_10 : decode cX3_isUsed 10 = .ok (.if_icmp .ge 5, 3) := by decide +kernel
theorem dX3_isUsed_13 : decode cX3_isUsed 13 = .ok (.iconst 1, 1) := by decide +kernel
theorem dX3_isUsed_14 : decode cX3_isUsed 14 = .ok (.ireturn, 1) := by decide +kernel
theorem dX3_isUsed_15 : decode cX3_isUsed 15 = .ok (.iload_n 1, 1) := by decide +kernel
theorem dX3_isUsed_16 : decode cX3_isUsed 16 = .ok (.iconst 1, 1) := by decide +kernel
theorem dX3_isUsed_17 : decode cX3_isUsed 17 = .ok (.isub, 1) := by decide +kernel
theorem dX3_isUsed_18 : decode cX3_isUsed 18 = .ok (.aload_n 0, 1) := by decide +kernel
theorem dX3_isUsed_19 : decode cX3_isUsed 19 = .ok (.getfield 42, 3) := by decide +kernel
theorem dX3_isUsed_22 : decode cX3_isUsed 22 = .ok (.irem, 1) := by decide +kernel
theorem dX3_isUsed_23 : decode cX3_isUsed 23 = .ok (.istore_n 2, 1) := by decide +kernel
theorem dX3_isUsed_24 : decode cX3_isUsed 24 = .ok (.aload_n 0, 1) := by decide +kernel
theorem dX3_isUsed_25 : decode cX3_isUsed 25 = .ok (.getfield 9, 3) := by decide +kernel
theorem dX3_isUsed_28 : decode cX3_isUsed 28 = .ok (.aload_n 0, 1) := by decide +kernel
theorem dX3_isUsed_29 : decode cX3_isUsed 29 = .ok (.getfield 15, 3) := by decide +kernel
theorem dX3_isUsed_32 : decode cX3_isUsed 32 = .ok (.iload_n 1, 1) := by decide +kernel
theorem dX3_isUsed_33 : decode cX3_isUsed 33 = .ok (.iconst 1, 1) := by decide +kernel
theorem dX3_isUsed_34 : decode cX3_isUsed 34 = .ok (.isub, 1) := by decide +kernel
theorem dX3_isUsed_35 : decode cX3_isUsed 35 = .ok (.aload_n 0, 1) := by decide +kernel
theorem dX3_isUsed_36 : decode cX3_isUsed 36 = .ok (.getfield 42, 3) := by decide +kernel
theorem dX3_isUsed_39 : decode cX3_isUsed 39 = .ok (.idiv, 1) := by decide +kernel
theorem dX3_isUsed_40 : decode cX3_isUsed 40 = .ok (.aload_n 0, 1) := by decide +kernel
theorem dX3_isUsed_41 : decode cX3_isUsed 41 = .ok (.getfield 19, 3) := by decide +kernel
theorem dX3_isUsed_44 : decode cX3_isUsed 44 = .ok (.invokevirtual 51, 3) := by decide +kernel
theorem dX3_isUsed_47 : decode cX3_isUsed 47 = .ok (.iload_n 2, 1) := by decide +kernel
theorem dX3_isUsed_48 : decode cX3_isUsed 48 = .ok (.bipush 8, 2) := by decide +kernel
theorem dX3_isUsed_50 : decode cX3_isUsed 50 = .ok (.idiv, 1) := by decide +kernel
theorem dX3_isUsed_51 : decode cX3_isUsed 51 = .ok (.iadd, 1) := by decide +kernel
theorem dX3_isUsed_52 : decode cX3_isUsed 52 = .ok (.invokevirtual 64, 3) := by decide +kernel
theorem dX3_isUsed_55 : decode cX3_isUsed 55 = .ok (.iload_n 2, 1) := by decide +kernel
theorem dX3_isUsed_56 : decode cX3_isUsed 56 = .ok (.bipush 8, 2) := by decide +kernel
theorem dX3_isUsed_58 : decode cX3_isUsed 58 = .ok (.irem, 1) := by decide +kernel
theorem dX3_isUsed_59 : decode cX3_isUsed 59 = .ok (.ishr, 1) := by decide +kernel
theorem dX3_isUsed_60 : decode cX3_isUsed 60 = .ok (.iconst 1, 1) := by decide +kernel
theorem dX3_isUsed_61 : decode cX3_isUsed 61 = .ok (.iand, 1) := by decide +kernel
theorem dX3_isUsed_62 : decode cX3_isUsed 62 = .ok (.iconst 1, 1) := by decide +kernel
theorem dX3_isUsed_63 : decode cX3_isUsed 63 = .ok (.if_icmp .ne 7, 3) := by decide +kernel
theorem dX3_isUsed_66 : decode cX3_isUsed 66 = .ok (.iconst 1, 1) := by decide +kernel
theorem dX3_isUsed_67 : decode cX3_isUsed 67 = .ok (.goto 4, 3) := by decide +kernel
theorem dX3_isUsed_70 : decode cX3_isUsed 70 = .ok (.iconst 0, 1) := by decide +kernel
theorem dX3_isUsed_71 : decode cX3_isUsed 71 = .ok (.ireturn, 1) := by decide +kernel
theorem dX0_byteAt_0 : decode cX0_byteAt 0 = .ok (.iload_n 1, 1) := by decide +kernel
theorem dX0_byteAt_1 : decode cX0_byteAt 1 = .ok (.ifCond .lt 14, 3) := by decide +kernel
theorem dX0_byteAt_4 : decode cX0_byteAt 4 = .ok (.iload_n 1, 1) := by decide +kernel
theorem dX0_byteAt_5 : decode cX0_byteAt 5 = .ok (.aload_n 0, 1) := by decide +kernel
theorem dX0_byteAt_6 : decode cX0_byteAt 6 = .ok (.getfield 23, 3) := by decide +kernel
theorem dX0_byteAt_9 : decode cX0_byteAt 9 = .ok (.invokevirtual 112, 3) := by decide +kernel
theorem dX0_byteAt_12 : decode cX0_byteAt 12 = .ok (.if_icmp .lt 5, 3) := by decide +kernel
theorem dX0_byteAt_15 : decode cX0_byteAt 15 = .ok (.iconst (-1), 1) := by decide +kernel
theorem dX0_byteAt_16 : decode cX0_byteAt 16 = .ok (.ireturn, 1) := by decide +kernel
theorem dX0_byteAt_17 : decode cX0_byteAt 17 = .ok (.iload_n 1, 1) := by decide +kernel
theorem dX0_byteAt_18 : decode cX0_byteAt 18 = .ok (.sipush 1024, 3) := by decide +kernel
theorem dX0_byteAt_21 : decode cX0_byteAt 21 = .ok (.idiv, 1) := by decide +kernel
theorem dX0_byteAt_22 : decode cX0_byteAt 22 = .ok (.istore_n 2, 1) := by decide +kernel
theorem dX0_byteAt_23 : decode cX0_byteAt 23 = .ok (.aload_n 0, 1) := by decide +kernel
theorem dX0_byteAt_24 : decode cX0_byteAt 24 = .ok (.getfield 142, 3) := by decide +kernel
theorem dX0_byteAt_27 : decode cX0_byteAt 27 = .ok (.ifCond .eq 22, 3) := by decide +kernel
theorem dX0_byteAt_30 : decode cX0_byteAt 30 = .ok (.iload_n 2, 1) := by decide +kernel
theorem dX0_byteAt_31 : decode cX0_byteAt 31 = .ok (.ifCond .le 18, 3) := by decide +kernel
theorem dX0_byteAt_34 : decode cX0_byteAt 34 = .ok (.aload_n 0, 1) := by decide +kernel
theorem dX0_byteAt_35 : decode cX0_byteAt 35 = .ok (.getfield 39, 3) := by decide +kernel
theorem dX0_byteAt_38 : decode cX0_byteAt 38 = .ok (.iload_n 2, 1) := by decide +kernel
theorem dX0_byteAt_39 : decode cX0_byteAt 39 = .ok (.invokevirtual 149, 3) := by decide +kernel
theorem dX0_byteAt_42 : decode cX0_byteAt 42 = .ok (.ifCond .ne 7, 3) := by decide +kernel
theorem dX0_byteAt_45 : decode cX0_byteAt 45 = .ok (.iconst 1, 1) := by decide +kernel
theorem dX0_byteAt_46 : decode cX0_byteAt 46 = .ok (.goto 4, 3) := by decide +kernel
theorem dX0_byteAt_49 : decode cX0_byteAt 49 = .ok (.iconst 0, 1) := by decide +kernel
theorem dX0_byteAt_50 : decode cX0_byteAt 50 = .ok (.istore_n 3, 1) := by decide +kernel
theorem dX0_byteAt_51 : decode cX0_byteAt 51 = .ok (.iload_n 3, 1) := by decide +kernel
theorem dX0_byteAt_52 : decode cX0_byteAt 52 = .ok (.ifCond .eq 7, 3) := by decide +kernel
theorem dX0_byteAt_55 : decode cX0_byteAt 55 = .ok (.iconst (-1), 1) := by decide +kernel
theorem dX0_byteAt_56 : decode cX0_byteAt 56 = .ok (.goto 11, 3) := by decide +kernel
theorem dX0_byteAt_59 : decode cX0_byteAt 59 = .ok (.aload_n 0, 1) := by decide +kernel
theorem dX0_byteAt_60 : decode cX0_byteAt 60 = .ok (.getfield 23, 3) := by decide +kernel
theorem dX0_byteAt_63 : decode cX0_byteAt 63 = .ok (.iload_n 1, 1) := by decide +kernel
theorem dX0_byteAt_64 : decode cX0_byteAt 64 = .ok (.invokevirtual 153, 3) := by decide +kernel
theorem dX0_byteAt_67 : decode cX0_byteAt 67 = .ok (.ireturn, 1) := by decide +kernel
theorem dX7_claim_0 : decode cX7_claim 0 = .ok (.iload_n 1, 1) := by decide +kernel
theorem dX7_claim_1 : decode cX7_claim 1 = .ok (.iconst 1, 1) := by decide +kernel
theorem dX7_claim_2 : decode cX7_claim 2 = .ok (.if_icmp .lt 21, 3) := by decide +kernel
theorem dX7_claim_5 : decode cX7_claim 5 = .ok (.iload_n 1, 1) := by decide +kernel
theorem dX7_claim_6 : decode cX7_claim 6 = .ok (.aload_n 0, 1) := by decide +kernel
theorem dX7_claim_7 : decode cX7_claim 7 = .ok (.getfield 65, 3) := by decide +kernel
theorem dX7_claim_10 : decode cX7_claim 10 = .ok (.arraylength, 1) := by decide +kernel
theorem dX7_claim_11 : decode cX7_claim 11 = .ok (.if_icmp .ge 12, 3) := by decide +kernel
theorem dX7_claim_14 : decode cX7_claim 14 = .ok (.aload_n 0, 1) := by decide +kernel
theorem dX7_claim_15 : decode cX7_claim 15 = .ok (.getfield 65, 3) := by decide +kernel
theorem dX7_claim_18 : decode cX7_claim 18 = .ok (.iload_n 1, 1) := by decide +kernel
theorem dX7_claim_19 : decode cX7_claim 19 = .ok (.baload, 1) := by decide +kernel
theorem dX7_claim_20 : decode cX7_claim 20 = .ok (.ifCond .eq 5, 3) := by decide +kernel
theorem dX7_claim_23 : decode cX7_claim 23 = .ok (.iconst 0, 1) := by decide +kernel
theorem dX7_claim_24 : decode cX7_claim 24 = .ok (.ireturn, 1) := by decide +kernel
theorem dX7_claim_25 : decode cX7_claim 25 = .ok (.aload_n 0, 1) := by decide +kernel
theorem dX7_claim_26 : decode cX7_claim 26 = .ok (.getfield 65, 3) := by decide +kernel
theorem dX7_claim_29 : decode cX7_claim 29 = .ok (.iload_n 1, 1) := by decide +kernel
theorem dX7_claim_30 : decode cX7_claim 30 = .ok (.iconst 1, 1) := by decide +kernel
theorem dX7_claim_31 : decode cX7_claim 31 = .ok (.bastore, 1) := by decide +kernel
theorem dX7_claim_32 : decode cX7_claim 32 = .ok (.iconst 1, 1) := by decide +kernel
theorem dX7_claim_33 : decode cX7_claim 33 = .ok (.ireturn, 1) := by decide +kernel
theorem dX7_claimFixed_0 : decode cX7_claimFixed 0 = .ok (.aload_n 0, 1) := by decide +kernel
theorem dX7_claimFixed_1 : decode cX7_claimFixed 1 = .ok (.getfield 65, 3) := by decide +kernel
theorem dX7_claimFixed_4 : decode cX7_claimFixed 4 = .ok (.iconst 0, 1) := by decide +kernel
theorem dX7_claimFixed_5 : decode cX7_claimFixed 5 = .ok (.invokestatic 100, 3) := by decide +kernel
theorem dX7_claimFixed_8 : decode cX7_claimFixed 8 = .ok (.iconst 0, 1) := by decide +kernel
theorem dX7_claimFixed_9 : decode cX7_claimFixed 9 = .ok (.istore_n 1, 1) := by decide +kernel
theorem dX7_claimFixed_10 : decode cX7_claimFixed 10 = .ok (.iload_n 1, 1) := by decide +kernel
theorem dX7_claimFixed_11 : decode cX7_claimFixed 11 = .ok (.aload_n 0, 1) := by decide +kernel
theorem dX7_claimFixed_12 : decode cX7_claimFixed 12 = .ok (.getfield 30, 3) := by decide +kernel
theorem dX7_claimFixed_15 : decode cX7_claimFixed 15 = .ok (.invokevirtual 103, 3) := by decide +kernel
theorem dX7_claimFixed_18 : decode cX7_claimFixed 18 = .ok (.if_icmp .ge 43, 3) := by decide +kernel
theorem dX7_claimFixed_21 : decode cX7_claimFixed 21 = .ok (.iconst 0, 1) := by decide +kernel
theorem dX7_claimFixed_22 : decode cX7_claimFixed 22 = .ok (.istore_n 2, 1) := by decide +kernel
theorem dX7_claimFixed_23 : decode cX7_claimFixed 23 = .ok (.iload_n 2, 1) := by decide +kernel
theorem dX7_claimFixed_24 : decode cX7_claimFixed 24 = .ok (.aload_n 0, 1) := by decide +kernel
theorem dX7_claimFixed_25 : decode cX7_claimFixed 25 = .ok (.getfield 30, 3) := by decide +kernel
theorem dX7_claimFixed_28 : decode cX7_claimFixed 28 = .ok (.invokevirtual 106, 3) := by decide +kernel
theorem dX7_claimFixed_31 : decode cX7_claimFixed 31 = .ok (.if_icmp .ge 24, 3) := by decide +kernel
theorem dX7_claimFixed_34 : decode cX7_claimFixed 34 = .ok (.aload_n 0, 1) := by decide +kernel
theorem dX7_claimFixed_35 : decode cX7_claimFixed 35 = .ok (.aload_n 0, 1) := by decide +kernel
theorem dX7_claimFixed_36 : decode cX7_claimFixed 36 = .ok (.getfield 30, 3) := by decide +kernel
theorem dX7_claimFixed_39 : decode cX7_claimFixed 39 = .ok (.iload_n 1, 1) := by decide +kernel
theorem dX7_claimFixed_40 : decode cX7_claimFixed 40 = .ok (.invokevirtual 109, 3) := by decide +kernel
theorem dX7_claimFixed_43 : decode cX7_claimFixed 43 = .ok (.iload_n 2, 1) := by decide +kernel
theorem dX7_claimFixed_44 : decode cX7_claimFixed 44 = .ok (.iadd, 1) := by decide +kernel
theorem dX7_claimFixed_45 : decode cX7_claimFixed 45 = .ok (.invokevirtual 113, 3) := by decide +kernel
theorem dX7_claimFixed_48 : decode cX7_claimFixed 48 = .ok (.pop, 1) := by decide +kernel
theorem dX7_claimFixed_49 : decode cX7_claimFixed 49 = .ok (.iinc 2 1, 3) := by decide +kernel
theorem dX7_claimFixed_52 : decode cX7_claimFixed 52 = .ok (.goto (-29), 3) := by decide +kernel
theorem dX7_claimFixed_55 : decode cX7_claimFixed 55 = .ok (.iinc 1 1, 3) := by decide +kernel
theorem dX7_claimFixed_58 : decode cX7_claimFixed 58 = .ok (.goto (-48), 3) := by decide +kernel
theorem dX7_claimFixed_61 : decode cX7_claimFixed 61 = .ok (.return_, 1) := by decide +kernel
theorem dJ2_fill__0 : decode cJ2_fill_ 0 = .ok (.iconst 0, 1) := by decide +kernel
theorem dJ2_fill__1 : decode cJ2_fill_ 1 = .ok (.istore_n 2, 1) := by decide +kernel
theorem dJ2_fill__2 : decode cJ2_fill_ 2 = .ok (.aload_n 0, 1) := by decide +kernel
theorem dJ2_fill__3 : decode cJ2_fill_ 3 = .ok (.arraylength, 1) := by decide +kernel
theorem dJ2_fill__4 : decode cJ2_fill_ 4 = .ok (.istore_n 3, 1) := by decide +kernel
theorem dJ2_fill__5 : decode cJ2_fill_ 5 = .ok (.iload_n 2, 1) := by decide +kernel
theorem dJ2_fill__6 : decode cJ2_fill_ 6 = .ok (.iload_n 3, 1) := by decide +kernel
theorem dJ2_fill__7 : decode cJ2_fill_ 7 = .ok (.if_icmp .ge 13, 3) := by decide +kernel
theorem dJ2_fill__10 : decode cJ2_fill_ 10 = .ok (.aload_n 0, 1) := by decide +kernel
theorem dJ2_fill__11 : decode cJ2_fill_ 11 = .ok (.iload_n 2, 1) := by decide +kernel
theorem dJ2_fill__12 : decode cJ2_fill_ 12 = .ok (.iload_n 1, 1) := by decide +kernel
theorem dJ2_fill__13 : decode cJ2_fill_ 13 = .ok (.iastore, 1) := by decide +kernel
theorem dJ2_fill__14 : decode cJ2_fill_ 14 = .ok (.iinc 2 1, 3) := by decide +kernel
theorem dJ2_fill__17 : decode cJ2_fill_ 17 = .ok (.goto (-12), 3) := by decide +kernel
theorem dJ2_fill__20 : decode cJ2_fill_ 20 = .ok (.return_, 1) := by decide +kernel
theorem dX1_isZero_0 : decode cX1_isZero 0 = .ok (.iload_n 1, 1) := by decide +kernel
theorem dX1_isZero_1 : decode cX1_isZero 1 = .ok (.istore_n 3, 1) := by decide +kernel
theorem dX1_isZero_2 : decode cX1_isZero 2 = .ok (.iload_n 3, 1) := by decide +kernel
theorem dX1_isZero_3 : decode cX1_isZero 3 = .ok (.iload_n 2, 1) := by decide +kernel
theorem dX1_isZero_4 : decode cX1_isZero 4 = .ok (.iconst 4, 1) := by decide +kernel
theorem dX1_isZero_5 : decode cX1_isZero 5 = .ok (.isub, 1) := by decide +kernel
theorem dX1_isZero_6 : decode cX1_isZero 6 = .ok (.if_icmp .gt 19, 3) := by decide +kernel
theorem dX1_isZero_9 : decode cX1_isZero 9 = .ok (.aload_n 0, 1) := by decide +kernel
theorem dX1_isZero_10 : decode cX1_isZero 10 = .ok (.iload_n 3, 1) := by decide +kernel
theorem dX1_isZero_11 : decode cX1_isZero 11 = .ok (.invokevirtual 33, 3) := by decide +kernel
theorem dX1_isZero_14 : decode cX1_isZero 14 = .ok (.ifCond .eq 5, 3) := by decide +kernel
theorem dX1_isZero_17 : decode cX1_isZero 17 = .ok (.iconst 0, 1) := by decide +kernel
theorem dX1_isZero_18 : decode cX1_isZero 18 = .ok (.ireturn, 1) := by decide +kernel
theorem dX1_isZero_19 : decode cX1_isZero 19 = .ok (.iinc 3 4, 3) := by decide +kernel
theorem dX1_isZero_22 : decode cX1_isZero 22 = .ok (.goto (-20), 3) := by decide +kernel
theorem dX1_isZero_25 : decode cX1_isZero 25 = .ok (.iload_n 3, 1) := by decide +kernel
theorem dX1_isZero_26 : decode cX1_isZero 26 = .ok (.iload_n 2, 1) := by decide +kernel
theorem dX1_isZero_27 : decode cX1_isZero 27 = .ok (.if_icmp .ge 19, 3) := by decide +kernel
theorem dX1_isZero_30 : decode cX1_isZero 30 = .ok (.aload_n 0, 1) := by decide +kernel
theorem dX1_isZero_31 : decode cX1_isZero 31 = .ok (.iload_n 3, 1) := by decide +kernel
theorem dX1_isZero_32 : decode cX1_isZero 32 = .ok (.invokevirtual 37, 3) := by decide +kernel
theorem dX1_isZero_35 : decode cX1_isZero 35 = .ok (.ifCond .eq 5, 3) := by decide +kernel
theorem dX1_isZero_38 : decode cX1_isZero 38 = .ok (.iconst 0, 1) := by decide +kernel
theorem dX1_isZero_39 : decode cX1_isZero 39 = .ok (.ireturn, 1) := by decide +kernel
theorem dX1_isZero_40 : decode cX1_isZero 40 = .ok (.iinc 3 1, 3) := by decide +kernel
theorem dX1_isZero_43 : decode cX1_isZero 43 = .ok (.goto (-18), 3) := by decide +kernel
theorem dX1_isZero_46 : decode cX1_isZero 46 = .ok (.iconst 1, 1) := by decide +kernel
theorem dX1_isZero_47 : decode cX1_isZero 47 = .ok (.ireturn, 1) := by decide +kernel
theorem dX4_withIndirect_0 : decode cX4_withIndirect 0 = .ok (.iload_n 0, 1) := by decide +kernel
theorem dX4_withIndirect_1 : decode cX4_withIndirect 1 = .ok (.bipush 12, 2) := by decide +kernel
theorem dX4_withIndirect_3 : decode cX4_withIndirect 3 = .ok (.if_icmp .gt 5, 3) := by decide +kernel
theorem dX4_withIndirect_6 : decode cX4_withIndirect 6 = .ok (.iload_n 0, 1) := by decide +kernel
theorem dX4_withIndirect_7 : decode cX4_withIndirect 7 = .ok (.ireturn, 1) := by decide +kernel
theorem dX4_withIndirect_8 : decode cX4_withIndirect 8 = .ok (.iload_n 0, 1) := by decide +kernel
theorem dX4_withIndirect_9 : decode cX4_withIndirect 9 = .ok (.sipush 268, 3) := by decide +kernel
theorem dX4_withIndirect_12 : decode cX4_withIndirect 12 = .ok (.if_icmp .gt 7, 3) := by decide +kernel
theorem dX4_withIndirect_15 : decode cX4_withIndirect 15 = .ok (.iload_n 0, 1) := by decide +kernel
theorem dX4_withIndirect_16 : decode cX4_withIndirect 16 = .ok (.iconst 1, 1) := by decide +kernel
theorem dX4_withIndirect_17 : decode cX4_withIndirect 17 = .ok (.iadd, 1) := by decide +kernel
theorem dX4_withIndirect_18 : decode cX4_withIndirect 18 = .ok (.ireturn, 1) := by decide +kernel
theorem dX4_withIndirect_19 : decode cX4_withIndirect 19 = .ok (.iload_n 0, 1) := by decide +kernel
theorem dX4_withIndirect_20 : decode cX4_withIndirect 20 = .ok (.iconst 2, 1) := by decide +kernel
theorem dX4_withIndirect_21 : decode cX4_withIndirect 21 = .ok (.iadd, 1) := by decide +kernel
theorem dX4_withIndirect_22 : decode cX4_withIndirect 22 = .ok (.iload_n 0, 1) := by decide +kernel
theorem dX4_withIndirect_23 : decode cX4_withIndirect 23 = .ok (.sipush 268, 3) := by decide +kernel
theorem dX4_withIndirect_26 : decode cX4_withIndirect 26 = .ok (.isub, 1) := by decide +kernel
theorem dX4_withIndirect_27 : decode cX4_withIndirect 27 = .ok (.sipush 256, 3) := by decide +kernel
theorem dX4_withIndirect_30 : decode cX4_withIndirect 30 = .ok (.iadd, 1) := by decide +kernel
theorem dX4_withIndirect_31 : decode cX4_withIndirect 31 = .ok (.iconst 1, 1) := by decide +kernel
theorem dX4_withIndirect_32 : decode cX4_withIndirect 32 = .ok (.isub, 1) := by decide +kernel
theorem dX4_withIndirect_33 : decode cX4_withIndirect 33 = .ok (.sipush 256, 3) := by decide +kernel
theorem dX4_withIndirect_36 : decode cX4_withIndirect 36 = .ok (.idiv, 1) := by decide +kernel
theorem dX4_withIndirect_37 : decode cX4_withIndirect 37 = .ok (.iadd, 1) := by decide +kernel
theorem dX4_withIndirect_38 : decode cX4_withIndirect 38 = .ok (.ireturn, 1) := by decide +kernel
theorem dX7_rowHolds_0 : decode cX7_rowHolds 0 = .ok (.iconst 0, 1) := by decide +kernel
theorem dX7_rowHolds_1 : decode cX7_rowHolds 1 = .ok (.istore 4, 2) := by decide +kernel
theorem dX7_rowHolds_3 : decode cX7_rowHolds 3 = .ok (.iload 4, 2) := by decide +kernel
theorem dX7_rowHolds_5 : decode cX7_rowHolds 5 = .ok (.iload_n 2, 1) := by decide +kernel
theorem dX7_rowHolds_6 : decode cX7_rowHolds 6 = .ok (.if_icmp .ge 49, 3) := by decide +kernel
theorem dX7_rowHolds_9 : decode cX7_rowHolds 9 = .ok (.aload_n 0, 1) := by decide +kernel
theorem dX7_rowHolds_10 : decode cX7_rowHolds 10 = .ok (.getfield 27, 3) := by decide +kernel
theorem dX7_rowHolds_13 : decode cX7_rowHolds 13 = .ok (.iload_n 1, 1) := by decide +kernel
theorem dX7_rowHolds_14 : decode cX7_rowHolds 14 = .ok (.iconst 4, 1) := by decide +kernel
theorem dX7_rowHolds_15 : decode cX7_rowHolds 15 = .ok (.iload 4, 2) := by decide +kernel
theorem dX7_rowHolds_17 : decode cX7_rowHolds 17 = .ok (.imul, 1) := by decide +kernel
theorem dX7_rowHolds_18 : decode cX7_rowHolds 18 = .ok (.iadd, 1) := by decide +kernel
theorem dX7_rowHolds_19 : decode cX7_rowHolds 19 = .ok (.invokevirtual 136, 3) := by decide +kernel
theorem dX7_rowHolds_22 : decode cX7_rowHolds 22 = .ok (.istore 5, 2) := by decide +kernel
theorem dX7_rowHolds_24 : decode cX7_rowHolds 24 = .ok (.iload 4, 2) := by decide +kernel
theorem dX7_rowHolds_26 : decode cX7_rowHolds 26 = .ok (.iload_n 3, 1) := by decide +kernel
theorem dX7_rowHolds_27 : decode cX7_rowHolds 27 = .ok (.if_icmp .ge 15, 3) := by decide +kernel
theorem dX7_rowHolds_30 : decode cX7_rowHolds 30 = .ok (.aload_n 0, 1) := by decide +kernel
theorem dX7_rowHolds_31 : decode cX7_rowHolds 31 = .ok (.iload 5, 2) := by decide +kernel
theorem dX7_rowHolds_33 : decode cX7_rowHolds 33 = .ok (.invokevirtual 113, 3) := by decide +kernel
theorem dX7_rowHolds_36 : decode cX7_rowHolds 36 = .ok (.ifCond .ne 13, 3) := by decide +kernel
theorem dX7_rowHolds_39 : decode cX7_rowHolds 39 = .ok (.goto 8, 3) := by decide +kernel
theorem dX7_rowHolds_42 : decode cX7_rowHolds 42 = .ok (.iload 5, 2) := by decide +kernel
theorem dX7_rowHolds_44 : decode cX7_rowHolds 44 = .ok (.ifCond .eq 5, 3) := by decide +kernel
theorem dX7_rowHolds_47 : decode cX7_rowHolds 47 = .ok (.iconst 0, 1) := by decide +kernel
theorem dX7_rowHolds_48 : decode cX7_rowHolds 48 = .ok (.ireturn, 1) := by decide +kernel
theorem dX7_rowHolds_49 : decode cX7_rowHolds 49 = .ok (.iinc 4 1, 3) := by decide +kernel
theorem dX7_rowHolds_52 : decode cX7_rowHolds 52 = .ok (.goto (-49), 3) := by decide +kernel
theorem dX7_rowHolds_55 : decode cX7_rowHolds 55 = .ok (.iconst 1, 1) := by decide +kernel
theorem dX7_rowHolds_56 : decode cX7_rowHolds 56 = .ok (.ireturn, 1) := by decide +kernel
theorem dX7_pointersHold_0 : decode cX7_pointersHold 0 = .ok (.iconst 0, 1) := by decide +kernel
theorem dX7_pointersHold_1 : decode cX7_pointersHold 1 = .ok (.iload_n 2, 1) := by decide +kernel
theorem dX7_pointersHold_2 : decode cX7_pointersHold 2 = .ok (.bipush 12, 2) := by decide +kernel
theorem dX7_pointersHold_4 : decode cX7_pointersHold 4 = .ok (.isub, 1) := by decide +kernel
theorem dX7_pointersHold_5 : decode cX7_pointersHold 5 = .ok (.invokestatic 59, 3) := by decide +kernel
theorem dX7_pointersHold_8 : decode cX7_pointersHold 8 = .ok (.istore_n 3, 1) := by decide +kernel
theorem dX7_pointersHold_9 : decode cX7_pointersHold 9 = .ok (.iconst 0, 1) := by decide +kernel
theorem dX7_pointersHold_10 : decode cX7_pointersHold 10 = .ok (.iload_n 2, 1) := by decide +kernel
theorem dX7_pointersHold_11 : decode cX7_pointersHold 11 = .ok (.sipush 268, 3) := by decide +kernel
theorem dX7_pointersHold_14 : decode cX7_pointersHold 14 = .ok (.isub, 1) := by decide +kernel
theorem dX7_pointersHold_15 : decode cX7_pointersHold 15 = .ok (.invokestatic 59, 3) := by decide +kernel
theorem dX7_pointersHold_18 : decode cX7_pointersHold 18 = .ok (.istore 4, 2) := by decide +kernel
theorem dX7_pointersHold_20 : decode cX7_pointersHold 20 = .ok (.aload_n 0, 1) := by decide +kernel
theorem dX7_pointersHold_21 : decode cX7_pointersHold 21 = .ok (.iload_n 1, 1) := by decide +kernel
theorem dX7_pointersHold_22 : decode cX7_pointersHold 22 = .ok (.bipush 40, 2) := by decide +kernel
theorem dX7_pointersHold_24 : decode cX7_pointersHold 24 = .ok (.iadd, 1) := by decide +kernel
theorem dX7_pointersHold_25 : decode cX7_pointersHold 25 = .ok (.bipush 12, 2) := by decide +kernel
theorem dX7_pointersHold_27 : decode cX7_pointersHold 27 = .ok (.iload_n 2, 1) := by decide +kernel
theorem dX7_pointersHold_28 : decode cX7_pointersHold 28 = .ok (.invokevirtual 152, 3) := by decide +kernel
theorem dX7_pointersHold_31 : decode cX7_pointersHold 31 = .ok (.ifCond .eq 30, 3) := by decide +kernel
theorem dX7_pointersHold_34 : decode cX7_pointersHold 34 = .ok (.aload_n 0, 1) := by decide +kernel
theorem dX7_pointersHold_35 : decode cX7_pointersHold 35 = .ok (.iload_n 1, 1) := by decide +kernel
theorem dX7_pointersHold_36 : decode cX7_pointersHold 36 = .ok (.bipush 88, 2) := by decide +kernel
theorem dX7_pointersHold_38 : decode cX7_pointersHold 38 = .ok (.iadd, 1) := by decide +kernel
theorem dX7_pointersHold_39 : decode cX7_pointersHold 39 = .ok (.iconst 1, 1) := by decide +kernel
theorem dX7_pointersHold_40 : decode cX7_pointersHold 40 = .ok (.iload_n 3, 1) := by decide +kernel
theorem dX7_pointersHold_41 : decode cX7_pointersHold 41 = .ok (.invokevirtual 152, 3) := by decide +kernel
theorem dX7_pointersHold_44 : decode cX7_pointersHold 44 = .ok (.ifCond .eq 17, 3) := by decide +kernel
theorem dX7_pointersHold_47 : decode cX7_pointersHold 47 = .ok (.aload_n 0, 1) := by decide +kernel
theorem dX7_pointersHold_48 : decode cX7_pointersHold 48 = .ok (.iload_n 1, 1) := by decide +kernel
theorem dX7_pointersHold_49 : decode cX7_pointersHold 49 = .ok (.bipush 92, 2) := by decide +kernel
theorem dX7_pointersHold_51 : decode cX7_pointersHold 51 = .ok (.iadd, 1) := by decide +kernel
theorem dX7_pointersHold_52 : decode cX7_pointersHold 52 = .ok (.iconst 1, 1) := by decide +kernel
theorem dX7_pointersHold_53 : decode cX7_pointersHold 53 = .ok (.iload 4, 2) := by decide +kernel
theorem dX7_pointersHold_55 : decode cX7_pointersHold 55 = .ok (.invokevirtual 152, 3) := by decide +kernel
theorem dX7_pointersHold_58 : decode cX7_pointersHold 58 = .ok (.ifCond .ne 5, 3) := by decide +kernel
theorem dX7_pointersHold_61 : decode cX7_pointersHold 61 = .ok (.iconst 0, 1) := by decide +kernel
theorem dX7_pointersHold_62 : decode cX7_pointersHold 62 = .ok (.ireturn, 1) := by decide +kernel
theorem dX7_pointersHold_63 : decode cX7_pointersHold 63 = .ok (.iload_n 3, 1) := by decide +kernel
theorem dX7_pointersHold_64 : decode cX7_pointersHold 64 = .ok (.ifCond .le 31, 3) := by decide +kernel
theorem dX7_pointersHold_67 : decode cX7_pointersHold 67 = .ok (.aload_n 0, 1) := by decide +kernel
theorem dX7_pointersHold_68 : decode cX7_pointersHold 68 = .ok (.aload_n 0, 1) := by decide +kernel
theorem dX7_pointersHold_69 : decode cX7_pointersHold 69 = .ok (.getfield 27, 3) := by decide +kernel
theorem dX7_pointersHold_72 : decode cX7_pointersHold 72 = .ok (.iload_n 1, 1) := by decide +kernel
theorem dX7_pointersHold_73 : decode cX7_pointersHold 73 = .ok (.bipush 88, 2) := by decide +kernel
theorem dX7_pointersHold_75 : decode cX7_pointersHold 75 = .ok (.iadd, 1) := by decide +kernel
theorem dX7_pointersHold_76 : decode cX7_pointersHold 76 = .ok (.invokevirtual 136, 3) := by decide +kernel
theorem dX7_pointersHold_79 : decode cX7_pointersHold 79 = .ok (.sipush 1024, 3) := by decide +kernel
theorem dX7_pointersHold_82 : decode cX7_pointersHold 82 = .ok (.imul, 1) := by decide +kernel
theorem dX7_pointersHold_83 : decode cX7_pointersHold 83 = .ok (.sipush 256, 3) := by decide +kernel
theorem dX7_pointersHold_86 : decode cX7_pointersHold 86 = .ok (.iload_n 3, 1) := by decide +kernel
theorem dX7_pointersHold_87 : decode cX7_pointersHold 87 = .ok (.invokevirtual 152, 3) := by decide +kernel
theorem dX7_pointersHold_90 : decode cX7_pointersHold 90 = .ok (.ifCond .ne 5, 3) := by decide +kernel
theorem dX7_pointersHold_93 : decode cX7_pointersHold 93 = .ok (.iconst 0, 1) := by decide +kernel
theorem dX7_pointersHold_94 : decode cX7_pointersHold 94 = .ok (.ireturn, 1) := by decide +kernel
theorem dX7_pointersHold_95 : decode cX7_pointersHold 95 = .ok (.aload_n 0, 1) := by decide +kernel
theorem dX7_pointersHold_96 : decode cX7_pointersHold 96 = .ok (.getfield 27, 3) := by decide +kernel
theorem dX7_pointersHold_99 : decode cX7_pointersHold 99 = .ok (.iload_n 1, 1) := by decide +kernel
theorem dX7_pointersHold_100 : decode cX7_pointersHold 100 = .ok (.bipush 92, 2) := by decide +kernel
theorem dX7_pointersHold_102 : decode cX7_pointersHold 102 = .ok (.iadd, 1) := by decide +kernel
theorem dX7_pointersHold_103 : decode cX7_pointersHold 103 = .ok (.invokevirtual 136, 3) := by decide +kernel
theorem dX7_pointersHold_106 : decode cX7_pointersHold 106 = .ok (.sipush 1024, 3) := by decide +kernel
theorem dX7_pointersHold_109 : decode cX7_pointersHold 109 = .ok (.imul, 1) := by decide +kernel
theorem dX7_pointersHold_110 : decode cX7_pointersHold 110 = .ok (.istore 5, 2) := by decide +kernel
theorem dX7_pointersHold_112 : decode cX7_pointersHold 112 = .ok (.iload 4, 2) := by decide +kernel
theorem dX7_pointersHold_114 : decode cX7_pointersHold 114 = .ok (.sipush 256, 3) := by decide +kernel
theorem dX7_pointersHold_117 : decode cX7_pointersHold 117 = .ok (.iadd, 1) := by decide +kernel
theorem dX7_pointersHold_118 : decode cX7_pointersHold 118 = .ok (.iconst 1, 1) := by decide +kernel
theorem dX7_pointersHold_119 : decode cX7_pointersHold 119 = .ok (.isub, 1) := by decide +kernel
theorem dX7_pointersHold_120 : decode cX7_pointersHold 120 = .ok (.sipush 256, 3) := by decide +kernel
theorem dX7_pointersHold_123 : decode cX7_pointersHold 123 = .ok (.idiv, 1) := by decide +kernel
theorem dX7_pointersHold_124 : decode cX7_pointersHold 124 = .ok (.istore 6, 2) := by decide +kernel
theorem dX7_pointersHold_126 : decode cX7_pointersHold 126 = .ok (.iload 6, 2) := by decide +kernel
theorem dX7_pointersHold_128 : decode cX7_pointersHold 128 = .ok (.ifCond .le 19, 3) := by decide +kernel
theorem dX7_pointersHold_131 : decode cX7_pointersHold 131 = .ok (.aload_n 0, 1) := by decide +kernel
theorem dX7_pointersHold_132 : decode cX7_pointersHold 132 = .ok (.iload 5, 2) := by decide +kernel
theorem dX7_pointersHold_134 : decode cX7_pointersHold 134 = .ok (.sipush 256, 3) := by decide +kernel
theorem dX7_pointersHold_137 : decode cX7_pointersHold 137 = .ok (.iload 6, 2) := by decide +kernel
theorem dX7_pointersHold_139 : decode cX7_pointersHold 139 = .ok (.invokevirtual 152, 3) := by decide +kernel
theorem dX7_pointersHold_142 : decode cX7_pointersHold 142 = .ok (.ifCond .ne 5, 3) := by decide +kernel
theorem dX7_pointersHold_145 : decode cX7_pointersHold 145 = .ok (.iconst 0, 1) := by decide +kernel
theorem dX7_pointersHold_146 : decode cX7_pointersHold 146 = .ok (.ireturn, 1) := by decide +kernel
theorem dX7_pointersHold_147 : decode cX7_pointersHold 147 = .ok (.iconst 0, 1) := by decide +kernel
theorem dX7_pointersHold_148 : decode cX7_pointersHold 148 = .ok (.istore 7, 2) := by decide +kernel
theorem dX7_pointersHold_150 : decode cX7_pointersHold 150 = .ok (.iload 7, 2) := by decide +kernel
theorem dX7_pointersHold_152 : decode cX7_pointersHold 152 = .ok (.iload 6, 2) := by decide +kernel
theorem dX7_pointersHold_154 : decode cX7_pointersHold 154 = .ok (.if_icmp .ge 48, 3) := by decide +kernel
theorem dX7_pointersHold_157 : decode cX7_pointersHold 157 = .ok (.aload_n 0, 1) := by decide +kernel
theorem dX7_pointersHold_158 : decode cX7_pointersHold 158 = .ok (.aload_n 0, 1) := by decide +kernel
theorem dX7_pointersHold_159 : decode cX7_pointersHold 159 = .ok (.getfield 27, 3) := by decide +kernel
theorem dX7_pointersHold_162 : decode cX7_pointersHold 162 = .ok (.iload 5, 2) := by decide +kernel
theorem dX7_pointersHold_164 : decode cX7_pointersHold 164 = .ok (.iconst 4, 1) := by decide +kernel
theorem dX7_pointersHold_165 : decode cX7_pointersHold 165 = .ok (.iload 7, 2) := by decide +kernel
theorem dX7_pointersHold_167 : decode cX7_pointersHold 167 = .ok (.imul, 1) := by decide +kernel
theorem dX7_pointersHold_168 : decode cX7_pointersHold 168 = .ok (.iadd, 1) := by decide +kernel
theorem dX7_pointersHold_169 : decode cX7_pointersHold 169 = .ok (.invokevirtual 136, 3) := by decide +kernel
theorem dX7_pointersHold_172 : decode cX7_pointersHold 172 = .ok (.sipush 1024, 3) := by decide +kernel
theorem dX7_pointersHold_175 : decode cX7_pointersHold 175 = .ok (.imul, 1) := by decide +kernel
theorem dX7_pointersHold_176 : decode cX7_pointersHold 176 = .ok (.sipush 256, 3) := by decide +kernel
theorem dX7_pointersHold_179 : decode cX7_pointersHold 179 = .ok (.iload 4, 2) := by decide +kernel
theorem dX7_pointersHold_181 : decode cX7_pointersHold 181 = .ok (.sipush 256, 3) := by decide +kernel
theorem dX7_pointersHold_184 : decode cX7_pointersHold 184 = .ok (.iload 7, 2) := by decide +kernel
theorem dX7_pointersHold_186 : decode cX7_pointersHold 186 = .ok (.imul, 1) := by decide +kernel
theorem dX7_pointersHold_187 : decode cX7_pointersHold 187 = .ok (.isub, 1) := by decide +kernel
theorem dX7_pointersHold_188 : decode cX7_pointersHold 188 = .ok (.invokevirtual 152, 3) := by decide +kernel
theorem dX7_pointersHold_191 : decode cX7_pointersHold 191 = .ok (.ifCond .ne 5, 3) := by decide +kernel
theorem dX7_pointersHold_194 : decode cX7_pointersHold 194 = .ok (.iconst 0, 1) := by decide +kernel
theorem dX7_pointersHold_195 : decode cX7_pointersHold 195 = .ok (.ireturn, 1) := by decide +kernel
theorem dX7_pointersHold_196 : decode cX7_pointersHold 196 = .ok (.iinc 7 1, 3) := by decide +kernel
theorem dX7_pointersHold_199 : decode cX7_pointersHold 199 = .ok (.goto (-49), 3) := by decide +kernel
theorem dX7_pointersHold_202 : decode cX7_pointersHold 202 = .ok (.iconst 1, 1) := by decide +kernel
theorem dX7_pointersHold_203 : decode cX7_pointersHold 203 = .ok (.ireturn, 1) := by decide +kernel
theorem dX7_inodeHolds_0 : decode cX7_inodeHolds 0 = .ok (.aload_n 0, 1) := by decide +kernel
theorem dX7_inodeHolds_1 : decode cX7_inodeHolds 1 = .ok (.getfield 27, 3) := by decide +kernel
theorem dX7_inodeHolds_4 : decode cX7_inodeHolds 4 = .ok (.iload_n 1, 1) := by decide +kernel
theorem dX7_inodeHolds_5 : decode cX7_inodeHolds 5 = .ok (.invokevirtual 133, 3) := by decide +kernel
theorem dX7_inodeHolds_8 : decode cX7_inodeHolds 8 = .ok (.istore_n 2, 1) := by decide +kernel
theorem dX7_inodeHolds_9 : decode cX7_inodeHolds 9 = .ok (.aload_n 0, 1) := by decide +kernel
theorem dX7_inodeHolds_10 : decode cX7_inodeHolds 10 = .ok (.getfield 27, 3) := by decide +kernel
theorem dX7_inodeHolds_13 : decode cX7_inodeHolds 13 = .ok (.iload_n 1, 1) := by decide +kernel
theorem dX7_inodeHolds_14 : decode cX7_inodeHolds 14 = .ok (.iconst 4, 1) := by decide +kernel
theorem dX7_inodeHolds_15 : decode cX7_inodeHolds 15 = .ok (.iadd, 1) := by decide +kernel
theorem dX7_inodeHolds_16 : decode cX7_inodeHolds 16 = .ok (.invokevirtual 136, 3) := by decide +kernel
theorem dX7_inodeHolds_19 : decode cX7_inodeHolds 19 = .ok (.istore_n 3, 1) := by decide +kernel
theorem dX7_inodeHolds_20 : decode cX7_inodeHolds 20 = .ok (.iload_n 2, 1) := by decide +kernel
theorem dX7_inodeHolds_21 : decode cX7_inodeHolds 21 = .ok (.sipush 16877, 3) := by decide +kernel
theorem dX7_inodeHolds_24 : decode cX7_inodeHolds 24 = .ok (.if_icmp .eq 9, 3) := by decide +kernel
theorem dX7_inodeHolds_27 : decode cX7_inodeHolds 27 = .ok (.iload_n 2, 1) := by decide +kernel
theorem dX7_inodeHolds_28 : decode cX7_inodeHolds 28 = .ok (.ldc 139, 2) := by decide +kernel
theorem dX7_inodeHolds_30 : decode cX7_inodeHolds 30 = .ok (.if_icmp .ne 18, 3) := by decide +kernel
theorem dX7_inodeHolds_33 : decode cX7_inodeHolds 33 = .ok (.iload_n 3, 1) := by decide +kernel
theorem dX7_inodeHolds_34 : decode cX7_inodeHolds 34 = .ok (.ifCond .lt 14, 3) := by decide +kernel
theorem dX7_inodeHolds_37 : decode cX7_inodeHolds 37 = .ok (.iload_n 3, 1) := by decide +kernel
theorem dX7_inodeHolds_38 : decode cX7_inodeHolds 38 = .ok (.aload_n 0, 1) := by decide +kernel
theorem dX7_inodeHolds_39 : decode cX7_inodeHolds 39 = .ok (.getfield 27, 3) := by decide +kernel
theorem dX7_inodeHolds_42 : decode cX7_inodeHolds 42 = .ok (.invokevirtual 140, 3) := by decide +kernel
theorem dX7_inodeHolds_45 : decode cX7_inodeHolds 45 = .ok (.if_icmp .le 5, 3) := by decide +kernel
theorem dX7_inodeHolds_48 : decode cX7_inodeHolds 48 = .ok (.iconst 0, 1) := by decide +kernel
theorem dX7_inodeHolds_49 : decode cX7_inodeHolds 49 = .ok (.ireturn, 1) := by decide +kernel
theorem dX7_inodeHolds_50 : decode cX7_inodeHolds 50 = .ok (.iload_n 3, 1) := by decide +kernel
theorem dX7_inodeHolds_51 : decode cX7_inodeHolds 51 = .ok (.invokestatic 143, 3) := by decide +kernel
theorem dX7_inodeHolds_54 : decode cX7_inodeHolds 54 = .ok (.istore 4, 2) := by decide +kernel
theorem dX7_inodeHolds_56 : decode cX7_inodeHolds 56 = .ok (.aload_n 0, 1) := by decide +kernel
theorem dX7_inodeHolds_57 : decode cX7_inodeHolds 57 = .ok (.getfield 27, 3) := by decide +kernel
theorem dX7_inodeHolds_60 : decode cX7_inodeHolds 60 = .ok (.iload_n 1, 1) := by decide +kernel
theorem dX7_inodeHolds_61 : decode cX7_inodeHolds 61 = .ok (.iconst 2, 1) := by decide +kernel
theorem dX7_inodeHolds_62 : decode cX7_inodeHolds 62 = .ok (.iadd, 1) := by decide +kernel
theorem dX7_inodeHolds_63 : decode cX7_inodeHolds 63 = .ok (.iload_n 1, 1) := by decide +kernel
theorem dX7_inodeHolds_64 : decode cX7_inodeHolds 64 = .ok (.iconst 4, 1) := by decide +kernel
theorem dX7_inodeHolds_65 : decode cX7_inodeHolds 65 = .ok (.iadd, 1) := by decide +kernel
theorem dX7_inodeHolds_66 : decode cX7_inodeHolds 66 = .ok (.invokevirtual 129, 3) := by decide +kernel
theorem dX7_inodeHolds_69 : decode cX7_inodeHolds 69 = .ok (.ifCond .eq 100, 3) := by decide +kernel
theorem dX7_inodeHolds_72 : decode cX7_inodeHolds 72 = .ok (.aload_n 0, 1) := by decide +kernel
theorem dX7_inodeHolds_73 : decode cX7_inodeHolds 73 = .ok (.getfield 27, 3) := by decide +kernel
theorem dX7_inodeHolds_76 : decode cX7_inodeHolds 76 = .ok (.iload_n 1, 1) := by decide +kernel
theorem dX7_inodeHolds_77 : decode cX7_inodeHolds 77 = .ok (.bipush 8, 2) := by decide +kernel
theorem dX7_inodeHolds_79 : decode cX7_inodeHolds 79 = .ok (.iadd, 1) := by decide +kernel
theorem dX7_inodeHolds_80 : decode cX7_inodeHolds 80 = .ok (.bipush 12, 2) := by decide +kernel
theorem dX7_inodeHolds_82 : decode cX7_inodeHolds 82 = .ok (.iadd, 1) := by decide +kernel
theorem dX7_inodeHolds_83 : decode cX7_inodeHolds 83 = .ok (.iload_n 1, 1) := by decide +kernel
theorem dX7_inodeHolds_84 : decode cX7_inodeHolds 84 = .ok (.bipush 26, 2) := by decide +kernel
theorem dX7_inodeHolds_86 : decode cX7_inodeHolds 86 = .ok (.iadd, 1) := by decide +kernel
theorem dX7_inodeHolds_87 : decode cX7_inodeHolds 87 = .ok (.invokevirtual 129, 3) := by decide +kernel
theorem dX7_inodeHolds_90 : decode cX7_inodeHolds 90 = .ok (.ifCond .eq 79, 3) := by decide +kernel
theorem dX7_inodeHolds_93 : decode cX7_inodeHolds 93 = .ok (.aload_n 0, 1) := by decide +kernel
theorem dX7_inodeHolds_94 : decode cX7_inodeHolds 94 = .ok (.getfield 27, 3) := by decide +kernel
theorem dX7_inodeHolds_97 : decode cX7_inodeHolds 97 = .ok (.iload_n 1, 1) := by decide +kernel
theorem dX7_inodeHolds_98 : decode cX7_inodeHolds 98 = .ok (.bipush 28, 2) := by decide +kernel
theorem dX7_inodeHolds_100 : decode cX7_inodeHolds 100 = .ok (.iadd, 1) := by decide +kernel
theorem dX7_inodeHolds_101 : decode cX7_inodeHolds 101 = .ok (.invokevirtual 136, 3) := by decide +kernel
theorem dX7_inodeHolds_104 : decode cX7_inodeHolds 104 = .ok (.iconst 2, 1) := by decide +kernel
theorem dX7_inodeHolds_105 : decode cX7_inodeHolds 105 = .ok (.iload 4, 2) := by decide +kernel
theorem dX7_inodeHolds_107 : decode cX7_inodeHolds 107 = .ok (.invokestatic 146, 3) := by decide +kernel
theorem dX7_inodeHolds_110 : decode cX7_inodeHolds 110 = .ok (.imul, 1) := by decide +kernel
theorem dX7_inodeHolds_111 : decode cX7_inodeHolds 111 = .ok (.if_icmp .ne 58, 3) := by decide +kernel
theorem dX7_inodeHolds_114 : decode cX7_inodeHolds 114 = .ok (.aload_n 0, 1) := by decide +kernel
theorem dX7_inodeHolds_115 : decode cX7_inodeHolds 115 = .ok (.getfield 27, 3) := by decide +kernel
theorem dX7_inodeHolds_118 : decode cX7_inodeHolds 118 = .ok (.iload_n 1, 1) := by decide +kernel
theorem dX7_inodeHolds_119 : decode cX7_inodeHolds 119 = .ok (.bipush 28, 2) := by decide +kernel
theorem dX7_inodeHolds_121 : decode cX7_inodeHolds 121 = .ok (.iadd, 1) := by decide +kernel
theorem dX7_inodeHolds_122 : decode cX7_inodeHolds 122 = .ok (.iconst 4, 1) := by decide +kernel
theorem dX7_inodeHolds_123 : decode cX7_inodeHolds 123 = .ok (.iadd, 1) := by decide +kernel
theorem dX7_inodeHolds_124 : decode cX7_inodeHolds 124 = .ok (.iload_n 1, 1) := by decide +kernel
theorem dX7_inodeHolds_125 : decode cX7_inodeHolds 125 = .ok (.bipush 40, 2) := by decide +kernel
theorem dX7_inodeHolds_127 : decode cX7_inodeHolds 127 = .ok (.iadd, 1) := by decide +kernel
theorem dX7_inodeHolds_128 : decode cX7_inodeHolds 128 = .ok (.invokevirtual 129, 3) := by decide +kernel
theorem dX7_inodeHolds_131 : decode cX7_inodeHolds 131 = .ok (.ifCond .eq 38, 3) := by decide +kernel
theorem dX7_inodeHolds_134 : decode cX7_inodeHolds 134 = .ok (.aload_n 0, 1) := by decide +kernel
theorem dX7_inodeHolds_135 : decode cX7_inodeHolds 135 = .ok (.getfield 27, 3) := by decide +kernel
theorem dX7_inodeHolds_138 : decode cX7_inodeHolds 138 = .ok (.iload_n 1, 1) := by decide +kernel
theorem dX7_inodeHolds_139 : decode cX7_inodeHolds 139 = .ok (.bipush 92, 2) := by decide +kernel
theorem dX7_inodeHolds_141 : decode cX7_inodeHolds 141 = .ok (.iadd, 1) := by decide +kernel
theorem dX7_inodeHolds_142 : decode cX7_inodeHolds 142 = .ok (.iconst 4, 1) := by decide +kernel
theorem dX7_inodeHolds_143 : decode cX7_inodeHolds 143 = .ok (.iadd, 1) := by decide +kernel
theorem dX7_inodeHolds_144 : decode cX7_inodeHolds 144 = .ok (.iload_n 1, 1) := by decide +kernel
theorem dX7_inodeHolds_145 : decode cX7_inodeHolds 145 = .ok (.sipush 128, 3) := by decide +kernel
theorem dX7_inodeHolds_148 : decode cX7_inodeHolds 148 = .ok (.iadd, 1) := by decide +kernel
theorem dX7_inodeHolds_149 : decode cX7_inodeHolds 149 = .ok (.invokevirtual 129, 3) := by decide +kernel
theorem dX7_inodeHolds_152 : decode cX7_inodeHolds 152 = .ok (.ifCond .eq 17, 3) := by decide +kernel
theorem dX7_inodeHolds_155 : decode cX7_inodeHolds 155 = .ok (.aload_n 0, 1) := by decide +kernel
theorem dX7_inodeHolds_156 : decode cX7_inodeHolds 156 = .ok (.iload_n 1, 1) := by decide +kernel
theorem dX7_inodeHolds_157 : decode cX7_inodeHolds 157 = .ok (.iload 4, 2) := by decide +kernel
theorem dX7_inodeHolds_159 : decode cX7_inodeHolds 159 = .ok (.invokevirtual 149, 3) := by decide +kernel
theorem dX7_inodeHolds_162 : decode cX7_inodeHolds 162 = .ok (.ifCond .eq 7, 3) := by decide +kernel
theorem dX7_inodeHolds_165 : decode cX7_inodeHolds 165 = .ok (.iconst 1, 1) := by decide +kernel
theorem dX7_inodeHolds_166 : decode cX7_inodeHolds 166 = .ok (.goto 4, 3) := by decide +kernel
theorem dX7_inodeHolds_169 : decode cX7_inodeHolds 169 = .ok (.iconst 0, 1) := by decide +kernel
theorem dX7_inodeHolds_170 : decode cX7_inodeHolds 170 = .ok (.ireturn, 1) := by decide +kernel
theorem dX7_inodesHold_0 : decode cX7_inodesHold 0 = .ok (.iconst 1, 1) := by decide +kernel
theorem dX7_inodesHold_1 : decode cX7_inodesHold 1 = .ok (.istore_n 1, 1) := by decide +kernel
theorem dX7_inodesHold_2 : decode cX7_inodesHold 2 = .ok (.iload_n 1, 1) := by decide +kernel
theorem dX7_inodesHold_3 : decode cX7_inodesHold 3 = .ok (.aload_n 0, 1) := by decide +kernel
theorem dX7_inodesHold_4 : decode cX7_inodesHold 4 = .ok (.getfield 30, 3) := by decide +kernel
theorem dX7_inodesHold_7 : decode cX7_inodesHold 7 = .ok (.invokevirtual 116, 3) := by decide +kernel
theorem dX7_inodesHold_10 : decode cX7_inodesHold 10 = .ok (.if_icmp .gt 79, 3) := by decide +kernel
theorem dX7_inodesHold_13 : decode cX7_inodesHold 13 = .ok (.aload_n 0, 1) := by decide +kernel
theorem dX7_inodesHold_14 : decode cX7_inodesHold 14 = .ok (.getfield 30, 3) := by decide +kernel
theorem dX7_inodesHold_17 : decode cX7_inodesHold 17 = .ok (.iload_n 1, 1) := by decide +kernel
theorem dX7_inodesHold_18 : decode cX7_inodesHold 18 = .ok (.invokevirtual 118, 3) := by decide +kernel
theorem dX7_inodesHold_21 : decode cX7_inodesHold 21 = .ok (.istore_n 2, 1) := by decide +kernel
theorem dX7_inodesHold_22 : decode cX7_inodesHold 22 = .ok (.iload_n 1, 1) := by decide +kernel
theorem dX7_inodesHold_23 : decode cX7_inodesHold 23 = .ok (.iconst 2, 1) := by decide +kernel
theorem dX7_inodesHold_24 : decode cX7_inodesHold 24 = .ok (.if_icmp .eq 20, 3) := by decide +kernel
theorem dX7_inodesHold_27 : decode cX7_inodesHold 27 = .ok (.iload_n 1, 1) := by decide +kernel
theorem dX7_inodesHold_28 : decode cX7_inodesHold 28 = .ok (.bipush 11, 2) := by decide +kernel
theorem dX7_inodesHold_30 : decode cX7_inodesHold 30 = .ok (.if_icmp .le 18, 3) := by decide +kernel
theorem dX7_inodesHold_33 : decode cX7_inodesHold 33 = .ok (.aload_n 0, 1) := by decide +kernel
theorem dX7_inodesHold_34 : decode cX7_inodesHold 34 = .ok (.getfield 38, 3) := by decide +kernel
theorem dX7_inodesHold_37 : decode cX7_inodesHold 37 = .ok (.iload_n 1, 1) := by decide +kernel
theorem dX7_inodesHold_38 : decode cX7_inodesHold 38 = .ok (.invokevirtual 121, 3) := by decide +kernel
theorem dX7_inodesHold_41 : decode cX7_inodesHold 41 = .ok (.ifCond .eq 7, 3) := by decide +kernel
theorem dX7_inodesHold_44 : decode cX7_inodesHold 44 = .ok (.iconst 1, 1) := by decide +kernel
theorem dX7_inodesHold_45 : decode cX7_inodesHold 45 = .ok (.goto 4, 3) := by decide +kernel
theorem dX7_inodesHold_48 : decode cX7_inodesHold 48 = .ok (.iconst 0, 1) := by decide +kernel
theorem dX7_inodesHold_49 : decode cX7_inodesHold 49 = .ok (.istore_n 3, 1) := by decide +kernel
theorem dX7_inodesHold_50 : decode cX7_inodesHold 50 = .ok (.iload_n 3, 1) := by decide +kernel
theorem dX7_inodesHold_51 : decode cX7_inodesHold 51 = .ok (.ifCond .eq 14, 3) := by decide +kernel
theorem dX7_inodesHold_54 : decode cX7_inodesHold 54 = .ok (.aload_n 0, 1) := by decide +kernel
theorem dX7_inodesHold_55 : decode cX7_inodesHold 55 = .ok (.iload_n 2, 1) := by decide +kernel
theorem dX7_inodesHold_56 : decode cX7_inodesHold 56 = .ok (.invokevirtual 126, 3) := by decide +kernel
theorem dX7_inodesHold_59 : decode cX7_inodesHold 59 = .ok (.ifCond .ne 24, 3) := by decide +kernel
theorem dX7_inodesHold_62 : decode cX7_inodesHold 62 = .ok (.goto 19, 3) := by decide +kernel
theorem dX7_inodesHold_65 : decode cX7_inodesHold 65 = .ok (.aload_n 0, 1) := by decide +kernel
theorem dX7_inodesHold_66 : decode cX7_inodesHold 66 = .ok (.getfield 27, 3) := by decide +kernel
theorem dX7_inodesHold_69 : decode cX7_inodesHold 69 = .ok (.iload_n 2, 1) := by decide +kernel
theorem dX7_inodesHold_70 : decode cX7_inodesHold 70 = .ok (.iload_n 2, 1) := by decide +kernel
theorem dX7_inodesHold_71 : decode cX7_inodesHold 71 = .ok (.sipush 128, 3) := by decide +kernel
theorem dX7_inodesHold_74 : decode cX7_inodesHold 74 = .ok (.iadd, 1) := by decide +kernel
theorem dX7_inodesHold_75 : decode cX7_inodesHold 75 = .ok (.invokevirtual 129, 3) := by decide +kernel
theorem dX7_inodesHold_78 : decode cX7_inodesHold 78 = .ok (.ifCond .ne 5, 3) := by decide +kernel
theorem dX7_inodesHold_81 : decode cX7_inodesHold 81 = .ok (.iconst 0, 1) := by decide +kernel
theorem dX7_inodesHold_82 : decode cX7_inodesHold 82 = .ok (.ireturn, 1) := by decide +kernel
theorem dX7_inodesHold_83 : decode cX7_inodesHold 83 = .ok (.iinc 1 1, 3) := by decide +kernel
theorem dX7_inodesHold_86 : decode cX7_inodesHold 86 = .ok (.goto (-84), 3) := by decide +kernel
theorem dX7_inodesHold_89 : decode cX7_inodesHold 89 = .ok (.iconst 1, 1) := by decide +kernel
theorem dX7_inodesHold_90 : decode cX7_inodesHold 90 = .ok (.ireturn, 1) := by decide +kernel
theorem dX4_isDirectory_0 : decode cX4_isDirectory 0 = .ok (.aload_n 0, 1) := by decide +kernel
theorem dX4_isDirectory_1 : decode cX4_isDirectory 1 = .ok (.getfield 9, 3) := by decide +kernel
theorem dX4_isDirectory_4 : decode cX4_isDirectory 4 = .ok (.aload_n 0, 1) := by decide +kernel
theorem dX4_isDirectory_5 : decode cX4_isDirectory 5 = .ok (.getfield 15, 3) := by decide +kernel
theorem dX4_isDirectory_8 : decode cX4_isDirectory 8 = .ok (.iload_n 1, 1) := by decide +kernel
theorem dX4_isDirectory_9 : decode cX4_isDirectory 9 = .ok (.invokevirtual 23, 3) := by decide +kernel
theorem dX4_isDirectory_12 : decode cX4_isDirectory 12 = .ok (.invokevirtual 29, 3) := by decide +kernel
theorem dX4_isDirectory_15 : decode cX4_isDirectory 15 = .ok (.sipush 16877, 3) := by decide +kernel
theorem dX4_isDirectory_18 : decode cX4_isDirectory 18 = .ok (.if_icmp .ne 7, 3) := by decide +kernel
theorem dX4_isDirectory_21 : decode cX4_isDirectory 21 = .ok (.iconst 1, 1) := by decide +kernel
theorem dX4_isDirectory_22 : decode cX4_isDirectory 22 = .ok (.goto 4, 3) := by decide +kernel
theorem dX4_isDirectory_25 : decode cX4_isDirectory 25 = .ok (.iconst 0, 1) := by decide +kernel
theorem dX4_isDirectory_26 : decode cX4_isDirectory 26 = .ok (.ireturn, 1) := by decide +kernel
theorem dX5_read_0 : decode cX5_read 0 = .ok (.aload_n 0, 1) := by decide +kernel
theorem dX5_read_1 : decode cX5_read 1 = .ok (.iconst 0, 1) := by decide +kernel
theorem dX5_read_2 : decode cX5_read 2 = .ok (.putfield 23, 3) := by decide +kernel
theorem dX5_read_5 : decode cX5_read 5 = .ok (.sipush 512, 3) := by decide +kernel
theorem dX5_read_8 : decode cX5_read 8 = .ok (.aload_n 0, 1) := by decide +kernel
theorem dX5_read_9 : decode cX5_read 9 = .ok (.getfield 19, 3) := by decide +kernel
theorem dX5_read_12 : decode cX5_read 12 = .ok (.iload_n 1, 1) := by decide +kernel
theorem dX5_read_13 : decode cX5_read 13 = .ok (.invokevirtual 27, 3) := by decide +kernel
theorem dX5_read_16 : decode cX5_read 16 = .ok (.invokestatic 33, 3) := by decide +kernel
theorem dX5_read_19 : decode cX5_read 19 = .ok (.invokestatic 36, 3) := by decide +kernel
theorem dX5_read_22 : decode cX5_read 22 = .ok (.istore_n 2, 1) := by decide +kernel
theorem dX5_read_23 : decode cX5_read 23 = .ok (.iconst 0, 1) := by decide +kernel
theorem dX5_read_24 : decode cX5_read 24 = .ok (.istore_n 3, 1) := by decide +kernel
theorem dX5_read_25 : decode cX5_read 25 = .ok (.iload_n 3, 1) := by decide +kernel
theorem dX5_read_26 : decode cX5_read 26 = .ok (.iload_n 2, 1) := by decide +kernel
theorem dX5_read_27 : decode cX5_read 27 = .ok (.if_icmp .ge 98, 3) := by decide +kernel
theorem dX5_read_30 : decode cX5_read 30 = .ok (.aload_n 0, 1) := by decide +kernel
theorem dX5_read_31 : decode cX5_read 31 = .ok (.getfield 19, 3) := by decide +kernel
theorem dX5_read_34 : decode cX5_read 34 = .ok (.iload_n 1, 1) := by decide +kernel
theorem dX5_read_35 : decode cX5_read 35 = .ok (.iload_n 3, 1) := by decide +kernel
theorem dX5_read_36 : decode cX5_read 36 = .ok (.invokevirtual 42, 3) := by decide +kernel
theorem dX5_read_39 : decode cX5_read 39 = .ok (.sipush 1024, 3) := by decide +kernel
theorem dX5_read_42 : decode cX5_read 42 = .ok (.imul, 1) := by decide +kernel
theorem dX5_read_43 : decode cX5_read 43 = .ok (.istore 4, 2) := by decide +kernel
theorem dX5_read_45 : decode cX5_read 45 = .ok (.iconst 0, 1) := by decide +kernel
theorem dX5_read_46 : decode cX5_read 46 = .ok (.istore 5, 2) := by decide +kernel
theorem dX5_read_48 : decode cX5_read 48 = .ok (.iload 5, 2) := by decide +kernel
theorem dX5_read_50 : decode cX5_read 50 = .ok (.sipush 1024, 3) := by decide +kernel
theorem dX5_read_53 : decode cX5_read 53 = .ok (.if_icmp .ge 66, 3) := by decide +kernel
theorem dX5_read_56 : decode cX5_read 56 = .ok (.aload_n 0, 1) := by decide +kernel
theorem dX5_read_57 : decode cX5_read 57 = .ok (.getfield 23, 3) := by decide +kernel
theorem dX5_read_60 : decode cX5_read 60 = .ok (.aload_n 0, 1) := by decide +kernel
theorem dX5_read_61 : decode cX5_read 61 = .ok (.getfield 9, 3) := by decide +kernel
theorem dX5_read_64 : decode cX5_read 64 = .ok (.arraylength, 1) := by decide +kernel
theorem dX5_read_65 : decode cX5_read 65 = .ok (.if_icmp .ge 54, 3) := by decide +kernel
theorem dX5_read_68 : decode cX5_read 68 = .ok (.aload_n 0, 1) := by decide +kernel
theorem dX5_read_69 : decode cX5_read 69 = .ok (.getfield 9, 3) := by decide +kernel
theorem dX5_read_72 : decode cX5_read 72 = .ok (.aload_n 0, 1) := by decide +kernel
theorem dX5_read_73 : decode cX5_read 73 = .ok (.getfield 23, 3) := by decide +kernel
theorem dX5_read_76 : decode cX5_read 76 = .ok (.iload 4, 2) := by decide +kernel
theorem dX5_read_78 : decode cX5_read 78 = .ok (.iload 5, 2) := by decide +kernel
theorem dX5_read_80 : decode cX5_read 80 = .ok (.iadd, 1) := by decide +kernel
theorem dX5_read_81 : decode cX5_read 81 = .ok (.iastore, 1) := by decide +kernel
theorem dX5_read_82 : decode cX5_read 82 = .ok (.aload_n 0, 1) := by decide +kernel
theorem dX5_read_83 : decode cX5_read 83 = .ok (.dup, 1) := by decide +kernel
theorem dX5_read_84 : decode cX5_read 84 = .ok (.getfield 23, 3) := by decide +kernel
theorem dX5_read_87 : decode cX5_read 87 = .ok (.iconst 1, 1) := by decide +kernel
theorem dX5_read_88 : decode cX5_read 88 = .ok (.iadd, 1) := by decide +kernel
theorem dX5_read_89 : decode cX5_read 89 = .ok (.putfield 23, 3) := by decide +kernel
theorem dX5_read_92 : decode cX5_read 92 = .ok (.iload 5, 2) := by decide +kernel
theorem dX5_read_94 : decode cX5_read 94 = .ok (.bipush 8, 2) := by decide +kernel
theorem dX5_read_96 : decode cX5_read 96 = .ok (.aload_n 0, 1) := by decide +kernel
theorem dX5_read_97 : decode cX5_read 97 = .ok (.getfield 15, 3) := by decide +kernel
theorem dX5_read_100 : decode cX5_read 100 = .ok (.iload 4, 2) := by decide +kernel
theorem dX5_read_102 : decode cX5_read 102 = .ok (.iload 5, 2) := by decide +kernel
theorem dX5_read_104 : decode cX5_read 104 = .ok (.iadd, 1) := by decide +kernel
theorem dX5_read_105 : decode cX5_read 105 = .ok (.iconst 4, 1) := by decide +kernel
theorem dX5_read_106 : decode cX5_read 106 = .ok (.iadd, 1) := by decide +kernel
theorem dX5_read_107 : decode cX5_read 107 = .ok (.invokevirtual 45, 3) := by decide +kernel
theorem dX5_read_110 : decode cX5_read 110 = .ok (.invokestatic 50, 3) := by decide +kernel
theorem dX5_read_113 : decode cX5_read 113 = .ok (.iadd, 1) := by decide +kernel
theorem dX5_read_114 : decode cX5_read 114 = .ok (.istore 5, 2) := by decide +kernel
theorem dX5_read_116 : decode cX5_read 116 = .ok (.goto (-68), 3) := by decide +kernel
theorem dX5_read_119 : decode cX5_read 119 = .ok (.iinc 3 1, 3) := by decide +kernel
theorem dX5_read_122 : decode cX5_read 122 = .ok (.goto (-97), 3) := by decide +kernel
theorem dX5_read_125 : decode cX5_read 125 = .ok (.return_, 1) := by decide +kernel
theorem dX5_count_0 : decode cX5_count 0 = .ok (.aload_n 0, 1) := by decide +kernel
theorem dX5_count_1 : decode cX5_count 1 = .ok (.getfield 23, 3) := by decide +kernel
theorem dX5_count_4 : decode cX5_count 4 = .ok (.ireturn, 1) := by decide +kernel
theorem dX5_entryAt_0 : decode cX5_entryAt 0 = .ok (.iload_n 1, 1) := by decide +kernel
theorem dX5_entryAt_1 : decode cX5_entryAt 1 = .ok (.ifCond .lt 20, 3) := by decide +kernel
theorem dX5_entryAt_4 : decode cX5_entryAt 4 = .ok (.iload_n 1, 1) := by decide +kernel
theorem dX5_entryAt_5 : decode cX5_entryAt 5 = .ok (.aload_n 0, 1) := by decide +kernel
theorem dX5_entryAt_6 : decode cX5_entryAt 6 = .ok (.getfield 23, 3) := by decide +kernel
theorem dX5_entryAt_9 : decode cX5_entryAt 9 = .ok (.if_icmp .ge 12, 3) := by decide +kernel
theorem dX5_entryAt_12 : decode cX5_entryAt 12 = .ok (.aload_n 0, 1) := by decide +kernel
theorem dX5_entryAt_13 : decode cX5_entryAt 13 = .ok (.getfield 9, 3) := by decide +kernel
theorem dX5_entryAt_16 : decode cX5_entryAt 16 = .ok (.iload_n 1, 1) := by decide +kernel
theorem dX5_entryAt_17 : decode cX5_entryAt 17 = .ok (.iaload, 1) := by decide +kernel
theorem dX5_entryAt_18 : decode cX5_entryAt 18 = .ok (.goto 4, 3) := by decide +kernel
theorem dX5_entryAt_21 : decode cX5_entryAt 21 = .ok (.iconst (-1), 1) := by decide +kernel
theorem dX5_entryAt_22 : decode cX5_entryAt 22 = .ok (.ireturn, 1) := by decide +kernel
theorem dX5_lengthOf_0 : decode cX5_lengthOf 0 = .ok (.aload_n 0, 1) := by decide +kernel
theorem dX5_lengthOf_1 : decode cX5_lengthOf 1 = .ok (.getfield 15, 3) := by decide +kernel
theorem dX5_lengthOf_4 : decode cX5_lengthOf 4 = .ok (.aload_n 0, 1) := by decide +kernel
theorem dX5_lengthOf_5 : decode cX5_lengthOf 5 = .ok (.iload_n 1, 1) := by decide +kernel
theorem dX5_lengthOf_6 : decode cX5_lengthOf 6 = .ok (.invokevirtual 53, 3) := by decide +kernel
theorem dX5_lengthOf_9 : decode cX5_lengthOf 9 = .ok (.iconst 4, 1) := by decide +kernel
theorem dX5_lengthOf_10 : decode cX5_lengthOf 10 = .ok (.iadd, 1) := by decide +kernel
theorem dX5_lengthOf_11 : decode cX5_lengthOf 11 = .ok (.invokevirtual 45, 3) := by decide +kernel
theorem dX5_lengthOf_14 : decode cX5_lengthOf 14 = .ok (.ireturn, 1) := by decide +kernel
theorem dX5_inodeOf_0 : decode cX5_inodeOf 0 = .ok (.aload_n 0, 1) := by decide +kernel
theorem dX5_inodeOf_1 : decode cX5_inodeOf 1 = .ok (.getfield 15, 3) := by decide +kernel
theorem dX5_inodeOf_4 : decode cX5_inodeOf 4 = .ok (.aload_n 0, 1) := by decide +kernel
theorem dX5_inodeOf_5 : decode cX5_inodeOf 5 = .ok (.iload_n 1, 1) := by decide +kernel
theorem dX5_inodeOf_6 : decode cX5_inodeOf 6 = .ok (.invokevirtual 53, 3) := by decide +kernel
theorem dX5_inodeOf_9 : decode cX5_inodeOf 9 = .ok (.invokevirtual 56, 3) := by decide +kernel
theorem dX5_inodeOf_12 : decode cX5_inodeOf 12 = .ok (.ireturn, 1) := by decide +kernel
theorem dX5_nameLengthOf_0 : decode cX5_nameLengthOf 0 = .ok (.aload_n 0, 1) := by decide +kernel
theorem dX5_nameLengthOf_1 : decode cX5_nameLengthOf 1 = .ok (.getfield 15, 3) := by decide +kernel
theorem dX5_nameLengthOf_4 : decode cX5_nameLengthOf 4 = .ok (.aload_n 0, 1) := by decide +kernel
theorem dX5_nameLengthOf_5 : decode cX5_nameLengthOf 5 = .ok (.iload_n 1, 1) := by decide +kernel
theorem dX5_nameLengthOf_6 : decode cX5_nameLengthOf 6 = .ok (.invokevirtual 53, 3) := by decide +kernel
theorem dX5_nameLengthOf_9 : decode cX5_nameLengthOf 9 = .ok (.bipush 6, 2) := by decide +kernel
theorem dX5_nameLengthOf_11 : decode cX5_nameLengthOf 11 = .ok (.iadd, 1) := by decide +kernel
theorem dX5_nameLengthOf_12 : decode cX5_nameLengthOf 12 = .ok (.invokevirtual 59, 3) := by decide +kernel
theorem dX5_nameLengthOf_15 : decode cX5_nameLengthOf 15 = .ok (.ireturn, 1) := by decide +kernel
theorem dX5_spaceFor_0 : decode cX5_spaceFor 0 = .ok (.bipush 8, 2) := by decide +kernel
theorem dX5_spaceFor_2 : decode cX5_spaceFor 2 = .ok (.iload_n 0, 1) := by decide +kernel
theorem dX5_spaceFor_3 : decode cX5_spaceFor 3 = .ok (.iadd, 1) := by decide +kernel
theorem dX5_spaceFor_4 : decode cX5_spaceFor 4 = .ok (.iconst 3, 1) := by decide +kernel
theorem dX5_spaceFor_5 : decode cX5_spaceFor 5 = .ok (.iadd, 1) := by decide +kernel
theorem dX5_spaceFor_6 : decode cX5_spaceFor 6 = .ok (.iconst 4, 1) := by decide +kernel
theorem dX5_spaceFor_7 : decode cX5_spaceFor 7 = .ok (.idiv, 1) := by decide +kernel
theorem dX5_spaceFor_8 : decode cX5_spaceFor 8 = .ok (.iconst 4, 1) := by decide +kernel
theorem dX5_spaceFor_9 : decode cX5_spaceFor 9 = .ok (.imul, 1) := by decide +kernel
theorem dX5_spaceFor_10 : decode cX5_spaceFor 10 = .ok (.ireturn, 1) := by decide +kernel
theorem dX5_usedBy_0 : decode cX5_usedBy 0 = .ok (.aload_n 0, 1) := by decide +kernel
theorem dX5_usedBy_1 : decode cX5_usedBy 1 = .ok (.iload_n 1, 1) := by decide +kernel
theorem dX5_usedBy_2 : decode cX5_usedBy 2 = .ok (.invokevirtual 53, 3) := by decide +kernel
theorem dX5_usedBy_5 : decode cX5_usedBy 5 = .ok (.istore_n 2, 1) := by decide +kernel
theorem dX5_usedBy_6 : decode cX5_usedBy 6 = .ok (.aload_n 0, 1) := by decide +kernel
theorem dX5_usedBy_7 : decode cX5_usedBy 7 = .ok (.getfield 15, 3) := by decide +kernel
theorem dX5_usedBy_10 : decode cX5_usedBy 10 = .ok (.iload_n 2, 1) := by decide +kernel
theorem dX5_usedBy_11 : decode cX5_usedBy 11 = .ok (.invokevirtual 56, 3) := by decide +kernel
theorem dX5_usedBy_14 : decode cX5_usedBy 14 = .ok (.ifCond .ne 7, 3) := by decide +kernel
theorem dX5_usedBy_17 : decode cX5_usedBy 17 = .ok (.iconst 0, 1) := by decide +kernel
theorem dX5_usedBy_18 : decode cX5_usedBy 18 = .ok (.goto 17, 3) := by decide +kernel
theorem dX5_usedBy_21 : decode cX5_usedBy 21 = .ok (.aload_n 0, 1) := by decide +kernel
theorem dX5_usedBy_22 : decode cX5_usedBy 22 = .ok (.getfield 15, 3) := by decide +kernel
theorem dX5_usedBy_25 : decode cX5_usedBy 25 = .ok (.iload_n 2, 1) := by decide +kernel
theorem dX5_usedBy_26 : decode cX5_usedBy 26 = .ok (.bipush 6, 2) := by decide +kernel
theorem dX5_usedBy_28 : decode cX5_usedBy 28 = .ok (.iadd, 1) := by decide +kernel
theorem dX5_usedBy_29 : decode cX5_usedBy 29 = .ok (.invokevirtual 59, 3) := by decide +kernel
theorem dX5_usedBy_32 : decode cX5_usedBy 32 = .ok (.invokestatic 62, 3) := by decide +kernel
theorem dX5_usedBy_35 : decode cX5_usedBy 35 = .ok (.ireturn, 1) := by decide +kernel
theorem dX7_entryHolds_0 : decode cX7_entryHolds 0 = .ok (.aload_n 0, 1) := by decide +kernel
theorem dX7_entryHolds_1 : decode cX7_entryHolds 1 = .ok (.getfield 45, 3) := by decide +kernel
theorem dX7_entryHolds_4 : decode cX7_entryHolds 4 = .ok (.iload_n 1, 1) := by decide +kernel
theorem dX7_entryHolds_5 : decode cX7_entryHolds 5 = .ok (.invokevirtual 200, 3) := by decide +kernel
theorem dX7_entryHolds_8 : decode cX7_entryHolds 8 = .ok (.istore_n 2, 1) := by decide +kernel
theorem dX7_entryHolds_9 : decode cX7_entryHolds 9 = .ok (.aload_n 0, 1) := by decide +kernel
theorem dX7_entryHolds_10 : decode cX7_entryHolds 10 = .ok (.getfield 45, 3) := by decide +kernel
theorem dX7_entryHolds_13 : decode cX7_entryHolds 13 = .ok (.iload_n 1, 1) := by decide +kernel
theorem dX7_entryHolds_14 : decode cX7_entryHolds 14 = .ok (.invokevirtual 182, 3) := by decide +kernel
theorem dX7_entryHolds_17 : decode cX7_entryHolds 17 = .ok (.istore_n 3, 1) := by decide +kernel
theorem dX7_entryHolds_18 : decode cX7_entryHolds 18 = .ok (.aload_n 0, 1) := by decide +kernel
theorem dX7_entryHolds_19 : decode cX7_entryHolds 19 = .ok (.getfield 45, 3) := by decide +kernel
theorem dX7_entryHolds_22 : decode cX7_entryHolds 22 = .ok (.iload_n 1, 1) := by decide +kernel
theorem dX7_entryHolds_23 : decode cX7_entryHolds 23 = .ok (.invokevirtual 179, 3) := by decide +kernel
theorem dX7_entryHolds_26 : decode cX7_entryHolds 26 = .ok (.istore 4, 2) := by decide +kernel
theorem dX7_entryHolds_28 : decode cX7_entryHolds 28 = .ok (.iload_n 3, 1) := by decide +kernel
theorem dX7_entryHolds_29 : decode cX7_entryHolds 29 = .ok (.bipush 12, 2) := by decide +kernel
theorem dX7_entryHolds_31 : decode cX7_entryHolds 31 = .ok (.if_icmp .lt 38, 3) := by decide +kernel
theorem dX7_entryHolds_34 : decode cX7_entryHolds 34 = .ok (.iload_n 3, 1) := by decide +kernel
theorem dX7_entryHolds_35 : decode cX7_entryHolds 35 = .ok (.iconst 4, 1) := by decide +kernel
theorem dX7_entryHolds_36 : decode cX7_entryHolds 36 = .ok (.irem, 1) := by decide +kernel
theorem dX7_entryHolds_37 : decode cX7_entryHolds 37 = .ok (.ifCond .ne 32, 3) := by decide +kernel
theorem dX7_entryHolds_40 : decode cX7_entryHolds 40 = .ok (.iload_n 2, 1) := by decide +kernel
theorem dX7_entryHolds_41 : decode cX7_entryHolds 41 = .ok (.sipush 1024, 3) := by decide +kernel
theorem dX7_entryHolds_44 : decode cX7_entryHolds 44 = .ok (.irem, 1) := by decide +kernel
theorem dX7_entryHolds_45 : decode cX7_entryHolds 45 = .ok (.iload_n 3, 1) := by decide +kernel
theorem dX7_entryHolds_46 : decode cX7_entryHolds 46 = .ok (.iadd, 1) := by decide +kernel
theorem dX7_entryHolds_47 : decode cX7_entryHolds 47 = .ok (.sipush 1024, 3) := by decide +kernel
theorem dX7_entryHolds_50 : decode cX7_entryHolds 50 = .ok (.if_icmp .gt 19, 3) := by decide +kernel
theorem dX7_entryHolds_53 : decode cX7_entryHolds 53 = .ok (.iload_n 3, 1) := by decide +kernel
theorem dX7_entryHolds_54 : decode cX7_entryHolds 54 = .ok (.aload_n 0, 1) := by decide +kernel
theorem dX7_entryHolds_55 : decode cX7_entryHolds 55 = .ok (.getfield 45, 3) := by decide +kernel
theorem dX7_entryHolds_58 : decode cX7_entryHolds 58 = .ok (.iload_n 1, 1) := by decide +kernel
theorem dX7_entryHolds_59 : decode cX7_entryHolds 59 = .ok (.invokevirtual 203, 3) := by decide +kernel
theorem dX7_entryHolds_62 : decode cX7_entryHolds 62 = .ok (.if_icmp .lt 7, 3) := by decide +kernel
theorem dX7_entryHolds_65 : decode cX7_entryHolds 65 = .ok (.iconst 1, 1) := by decide +kernel
theorem dX7_entryHolds_66 : decode cX7_entryHolds 66 = .ok (.goto 4, 3) := by decide +kernel
theorem dX7_entryHolds_69 : decode cX7_entryHolds 69 = .ok (.iconst 0, 1) := by decide +kernel
theorem dX7_entryHolds_70 : decode cX7_entryHolds 70 = .ok (.istore 5, 2) := by decide +kernel
theorem dX7_entryHolds_72 : decode cX7_entryHolds 72 = .ok (.iload 4, 2) := by decide +kernel
theorem dX7_entryHolds_74 : decode cX7_entryHolds 74 = .ok (.ifCond .ne 22, 3) := by decide +kernel
theorem dX7_entryHolds_77 : decode cX7_entryHolds 77 = .ok (.iload 5, 2) := by decide +kernel
theorem dX7_entryHolds_79 : decode cX7_entryHolds 79 = .ok (.ifCond .eq 15, 3) := by decide +kernel
theorem dX7_entryHolds_82 : decode cX7_entryHolds 82 = .ok (.iload_n 2, 1) := by decide +kernel
theorem dX7_entryHolds_83 : decode cX7_entryHolds 83 = .ok (.sipush 1024, 3) := by decide +kernel
theorem dX7_entryHolds_86 : decode cX7_entryHolds 86 = .ok (.irem, 1) := by decide +kernel
theorem dX7_entryHolds_87 : decode cX7_entryHolds 87 = .ok (.ifCond .ne 7, 3) := by decide +kernel
theorem dX7_entryHolds_90 : decode cX7_entryHolds 90 = .ok (.iconst 1, 1) := by decide +kernel
theorem dX7_entryHolds_91 : decode cX7_entryHolds 91 = .ok (.goto 4, 3) := by decide +kernel
theorem dX7_entryHolds_94 : decode cX7_entryHolds 94 = .ok (.iconst 0, 1) := by decide +kernel
theorem dX7_entryHolds_95 : decode cX7_entryHolds 95 = .ok (.ireturn, 1) := by decide +kernel
theorem dX7_entryHolds_96 : decode cX7_entryHolds 96 = .ok (.aload_n 0, 1) := by decide +kernel
theorem dX7_entryHolds_97 : decode cX7_entryHolds 97 = .ok (.getfield 41, 3) := by decide +kernel
theorem dX7_entryHolds_100 : decode cX7_entryHolds 100 = .ok (.iload 4, 2) := by decide +kernel
theorem dX7_entryHolds_102 : decode cX7_entryHolds 102 = .ok (.invokevirtual 94, 3) := by decide +kernel
theorem dX7_entryHolds_105 : decode cX7_entryHolds 105 = .ok (.ifCond .eq 7, 3) := by decide +kernel
theorem dX7_entryHolds_108 : decode cX7_entryHolds 108 = .ok (.iconst 2, 1) := by decide +kernel
theorem dX7_entryHolds_109 : decode cX7_entryHolds 109 = .ok (.goto 4, 3) := by decide +kernel
theorem dX7_entryHolds_112 : decode cX7_entryHolds 112 = .ok (.iconst 1, 1) := by decide +kernel
theorem dX7_entryHolds_113 : decode cX7_entryHolds 113 = .ok (.istore 6, 2) := by decide +kernel
theorem dX7_entryHolds_115 : decode cX7_entryHolds 115 = .ok (.iload_n 2, 1) := by decide +kernel
theorem dX7_entryHolds_116 : decode cX7_entryHolds 116 = .ok (.bipush 8, 2) := by decide +kernel
theorem dX7_entryHolds_118 : decode cX7_entryHolds 118 = .ok (.iadd, 1) := by decide +kernel
theorem dX7_entryHolds_119 : decode cX7_entryHolds 119 = .ok (.aload_n 0, 1) := by decide +kernel
theorem dX7_entryHolds_120 : decode cX7_entryHolds 120 = .ok (.getfield 45, 3) := by decide +kernel
theorem dX7_entryHolds_123 : decode cX7_entryHolds 123 = .ok (.iload_n 1, 1) := by decide +kernel
theorem dX7_entryHolds_124 : decode cX7_entryHolds 124 = .ok (.invokevirtual 185, 3) := by decide +kernel
theorem dX7_entryHolds_127 : decode cX7_entryHolds 127 = .ok (.iadd, 1) := by decide +kernel
theorem dX7_entryHolds_128 : decode cX7_entryHolds 128 = .ok (.istore 7, 2) := by decide +kernel
theorem dX7_entryHolds_130 : decode cX7_entryHolds 130 = .ok (.iload 5, 2) := by decide +kernel
theorem dX7_entryHolds_132 : decode cX7_entryHolds 132 = .ok (.ifCond .eq 45, 3) := by decide +kernel
theorem dX7_entryHolds_135 : decode cX7_entryHolds 135 = .ok (.aload_n 0, 1) := by decide +kernel
theorem dX7_entryHolds_136 : decode cX7_entryHolds 136 = .ok (.getfield 27, 3) := by decide +kernel
theorem dX7_entryHolds_139 : decode cX7_entryHolds 139 = .ok (.iload_n 2, 1) := by decide +kernel
theorem dX7_entryHolds_140 : decode cX7_entryHolds 140 = .ok (.bipush 7, 2) := by decide +kernel
theorem dX7_entryHolds_142 : decode cX7_entryHolds 142 = .ok (.iadd, 1) := by decide +kernel
theorem dX7_entryHolds_143 : decode cX7_entryHolds 143 = .ok (.invokevirtual 206, 3) := by decide +kernel
theorem dX7_entryHolds_146 : decode cX7_entryHolds 146 = .ok (.iload 6, 2) := by decide +kernel
theorem dX7_entryHolds_148 : decode cX7_entryHolds 148 = .ok (.if_icmp .ne 29, 3) := by decide +kernel
theorem dX7_entryHolds_151 : decode cX7_entryHolds 151 = .ok (.aload_n 0, 1) := by decide +kernel
theorem dX7_entryHolds_152 : decode cX7_entryHolds 152 = .ok (.getfield 27, 3) := by decide +kernel
theorem dX7_entryHolds_155 : decode cX7_entryHolds 155 = .ok (.iload 7, 2) := by decide +kernel
theorem dX7_entryHolds_157 : decode cX7_entryHolds 157 = .ok (.iload_n 2, 1) := by decide +kernel
theorem dX7_entryHolds_158 : decode cX7_entryHolds 158 = .ok (.aload_n 0, 1) := by decide +kernel
theorem dX7_entryHolds_159 : decode cX7_entryHolds 159 = .ok (.getfield 45, 3) := by decide +kernel
theorem dX7_entryHolds_162 : decode cX7_entryHolds 162 = .ok (.iload_n 1, 1) := by decide +kernel
theorem dX7_entryHolds_163 : decode cX7_entryHolds 163 = .ok (.invokevirtual 203, 3) := by decide +kernel
theorem dX7_entryHolds_166 : decode cX7_entryHolds 166 = .ok (.iadd, 1) := by decide +kernel
theorem dX7_entryHolds_167 : decode cX7_entryHolds 167 = .ok (.invokevirtual 129, 3) := by decide +kernel
theorem dX7_entryHolds_170 : decode cX7_entryHolds 170 = .ok (.ifCond .eq 7, 3) := by decide +kernel
theorem dX7_entryHolds_173 : decode cX7_entryHolds 173 = .ok (.iconst 1, 1) := by decide +kernel
theorem dX7_entryHolds_174 : decode cX7_entryHolds 174 = .ok (.goto 4, 3) := by decide +kernel
theorem dX7_entryHolds_177 : decode cX7_entryHolds 177 = .ok (.iconst 0, 1) := by decide +kernel
theorem dX7_entryHolds_178 : decode cX7_entryHolds 178 = .ok (.ireturn, 1) := by decide +kernel
theorem dX5_letterOf_0 : decode cX5_letterOf 0 = .ok (.aload_n 0, 1) := by decide +kernel
theorem dX5_letterOf_1 : decode cX5_letterOf 1 = .ok (.iload_n 1, 1) := by decide +kernel
theorem dX5_letterOf_2 : decode cX5_letterOf 2 = .ok (.invokevirtual 53, 3) := by decide +kernel
theorem dX5_letterOf_5 : decode cX5_letterOf 5 = .ok (.istore_n 3, 1) := by decide +kernel
theorem dX5_letterOf_6 : decode cX5_letterOf 6 = .ok (.iload_n 2, 1) := by decide +kernel
theorem dX5_letterOf_7 : decode cX5_letterOf 7 = .ok (.ifCond .lt 22, 3) := by decide +kernel
theorem dX5_letterOf_10 : decode cX5_letterOf 10 = .ok (.iload_n 2, 1) := by decide +kernel
theorem dX5_letterOf_11 : decode cX5_letterOf 11 = .ok (.aload_n 0, 1) := by decide +kernel
theorem dX5_letterOf_12 : decode cX5_letterOf 12 = .ok (.getfield 15, 3) := by decide +kernel
theorem dX5_letterOf_15 : decode cX5_letterOf 15 = .ok (.iload_n 3, 1) := by decide +kernel
theorem dX5_letterOf_16 : decode cX5_letterOf 16 = .ok (.bipush 6, 2) := by decide +kernel
theorem dX5_letterOf_18 : decode cX5_letterOf 18 = .ok (.iadd, 1) := by decide +kernel
theorem dX5_letterOf_19 : decode cX5_letterOf 19 = .ok (.invokevirtual 59, 3) := by decide +kernel
theorem dX5_letterOf_22 : decode cX5_letterOf 22 = .ok (.if_icmp .ge 7, 3) := by decide +kernel
theorem dX5_letterOf_25 : decode cX5_letterOf 25 = .ok (.iconst 1, 1) := by decide +kernel
theorem dX5_letterOf_26 : decode cX5_letterOf 26 = .ok (.goto 4, 3) := by decide +kernel
theorem dX5_letterOf_29 : decode cX5_letterOf 29 = .ok (.iconst 0, 1) := by decide +kernel
theorem dX5_letterOf_30 : decode cX5_letterOf 30 = .ok (.istore 4, 2) := by decide +kernel
theorem dX5_letterOf_32 : decode cX5_letterOf 32 = .ok (.iload 4, 2) := by decide +kernel
theorem dX5_letterOf_34 : decode cX5_letterOf 34 = .ok (.ifCond .eq 19, 3) := by decide +kernel
theorem dX5_letterOf_37 : decode cX5_letterOf 37 = .ok (.aload_n 0, 1) := by decide +kernel
theorem dX5_letterOf_38 : decode cX5_letterOf 38 = .ok (.getfield 15, 3) := by decide +kernel
theorem dX5_letterOf_41 : decode cX5_letterOf 41 = .ok (.iload_n 3, 1) := by decide +kernel
theorem dX5_letterOf_42 : decode cX5_letterOf 42 = .ok (.bipush 8, 2) := by decide +kernel
theorem dX5_letterOf_44 : decode cX5_letterOf 44 = .ok (.iadd, 1) := by decide +kernel
theorem dX5_letterOf_45 : decode cX5_letterOf 45 = .ok (.iload_n 2, 1) := by decide +kernel
theorem dX5_letterOf_46 : decode cX5_letterOf 46 = .ok (.iadd, 1) := by decide +kernel
theorem dX5_letterOf_47 : decode cX5_letterOf 47 = .ok (.invokevirtual 59, 3) := by decide +kernel
theorem dX5_letterOf_50 : decode cX5_letterOf 50 = .ok (.goto 4, 3) := by decide +kernel
theorem dX5_letterOf_53 : decode cX5_letterOf 53 = .ok (.iconst (-1), 1) := by decide +kernel
theorem dX5_letterOf_54 : decode cX5_letterOf 54 = .ok (.ireturn, 1) := by decide +kernel
theorem dX5_parent_0 : decode cX5_parent 0 = .ok (.aload_n 0, 1) := by decide +kernel
theorem dX5_parent_1 : decode cX5_parent 1 = .ok (.iconst 1, 1) := by decide +kernel
theorem dX5_parent_2 : decode cX5_parent 2 = .ok (.invokevirtual 65, 3) := by decide +kernel
theorem dX5_parent_5 : decode cX5_parent 5 = .ok (.ireturn, 1) := by decide +kernel
theorem dX7_dotsHold_0 : decode cX7_dotsHold 0 = .ok (.aload_n 0, 1) := by decide +kernel
theorem dX7_dotsHold_1 : decode cX7_dotsHold 1 = .ok (.getfield 45, 3) := by decide +kernel
theorem dX7_dotsHold_4 : decode cX7_dotsHold 4 = .ok (.invokevirtual 173, 3) := by decide +kernel
theorem dX7_dotsHold_7 : decode cX7_dotsHold 7 = .ok (.iconst 2, 1) := by decide +kernel
theorem dX7_dotsHold_8 : decode cX7_dotsHold 8 = .ok (.if_icmp .lt 131, 3) := by decide +kernel
theorem dX7_dotsHold_11 : decode cX7_dotsHold 11 = .ok (.aload_n 0, 1) := by decide +kernel
theorem dX7_dotsHold_12 : decode cX7_dotsHold 12 = .ok (.iconst 0, 1) := by decide +kernel
theorem dX7_dotsHold_13 : decode cX7_dotsHold 13 = .ok (.invokevirtual 176, 3) := by decide +kernel
theorem dX7_dotsHold_16 : decode cX7_dotsHold 16 = .ok (.ifCond .eq 123, 3) := by decide +kernel
theorem dX7_dotsHold_19 : decode cX7_dotsHold 19 = .ok (.aload_n 0, 1) := by decide +kernel
theorem dX7_dotsHold_20 : decode cX7_dotsHold 20 = .ok (.iconst 1, 1) := by decide +kernel
theorem dX7_dotsHold_21 : decode cX7_dotsHold 21 = .ok (.invokevirtual 176, 3) := by decide +kernel
theorem dX7_dotsHold_24 : decode cX7_dotsHold 24 = .ok (.ifCond .eq 115, 3) := by decide +kernel
theorem dX7_dotsHold_27 : decode cX7_dotsHold 27 = .ok (.aload_n 0, 1) := by decide +kernel
theorem dX7_dotsHold_28 : decode cX7_dotsHold 28 = .ok (.getfield 45, 3) := by decide +kernel
theorem dX7_dotsHold_31 : decode cX7_dotsHold 31 = .ok (.iconst 0, 1) := by decide +kernel
theorem dX7_dotsHold_32 : decode cX7_dotsHold 32 = .ok (.invokevirtual 179, 3) := by decide +kernel
theorem dX7_dotsHold_35 : decode cX7_dotsHold 35 = .ok (.iload_n 1, 1) := by decide +kernel
theorem dX7_dotsHold_36 : decode cX7_dotsHold 36 = .ok (.if_icmp .ne 103, 3) := by decide +kernel
theorem dX7_dotsHold_39 : decode cX7_dotsHold 39 = .ok (.aload_n 0, 1) := by decide +kernel
theorem dX7_dotsHold_40 : decode cX7_dotsHold 40 = .ok (.getfield 45, 3) := by decide +kernel
theorem dX7_dotsHold_43 : decode cX7_dotsHold 43 = .ok (.iconst 0, 1) := by decide +kernel
theorem dX7_dotsHold_44 : decode cX7_dotsHold 44 = .ok (.invokevirtual 182, 3) := by decide +kernel
theorem dX7_dotsHold_47 : decode cX7_dotsHold 47 = .ok (.bipush 12, 2) := by decide +kernel
theorem dX7_dotsHold_49 : decode cX7_dotsHold 49 = .ok (.if_icmp .ne 90, 3) := by decide +kernel
theorem dX7_dotsHold_52 : decode cX7_dotsHold 52 = .ok (.aload_n 0, 1) := by decide +kernel
theorem dX7_dotsHold_53 : decode cX7_dotsHold 53 = .ok (.getfield 45, 3) := by decide +kernel
theorem dX7_dotsHold_56 : decode cX7_dotsHold 56 = .ok (.iconst 0, 1) := by decide +kernel
theorem dX7_dotsHold_57 : decode cX7_dotsHold 57 = .ok (.invokevirtual 185, 3) := by decide +kernel
theorem dX7_dotsHold_60 : decode cX7_dotsHold 60 = .ok (.iconst 1, 1) := by decide +kernel
theorem dX7_dotsHold_61 : decode cX7_dotsHold 61 = .ok (.if_icmp .ne 78, 3) := by decide +kernel
theorem dX7_dotsHold_64 : decode cX7_dotsHold 64 = .ok (.aload_n 0, 1) := by decide +kernel
theorem dX7_dotsHold_65 : decode cX7_dotsHold 65 = .ok (.getfield 45, 3) := by decide +kernel
theorem dX7_dotsHold_68 : decode cX7_dotsHold 68 = .ok (.iconst 0, 1) := by decide +kernel
theorem dX7_dotsHold_69 : decode cX7_dotsHold 69 = .ok (.iconst 0, 1) := by decide +kernel
theorem dX7_dotsHold_70 : decode cX7_dotsHold 70 = .ok (.invokevirtual 188, 3) := by decide +kernel
theorem dX7_dotsHold_73 : decode cX7_dotsHold 73 = .ok (.bipush 46, 2) := by decide +kernel
theorem dX7_dotsHold_75 : decode cX7_dotsHold 75 = .ok (.if_icmp .ne 64, 3) := by decide +kernel
theorem dX7_dotsHold_78 : decode cX7_dotsHold 78 = .ok (.aload_n 0, 1) := by decide +kernel
theorem dX7_dotsHold_79 : decode cX7_dotsHold 79 = .ok (.getfield 45, 3) := by decide +kernel
theorem dX7_dotsHold_82 : decode cX7_dotsHold 82 = .ok (.iconst 1, 1) := by decide +kernel
theorem dX7_dotsHold_83 : decode cX7_dotsHold 83 = .ok (.invokevirtual 185, 3) := by decide +kernel
theorem dX7_dotsHold_86 : decode cX7_dotsHold 86 = .ok (.iconst 2, 1) := by decide +kernel
theorem dX7_dotsHold_87 : decode cX7_dotsHold 87 = .ok (.if_icmp .ne 52, 3) := by decide +kernel
theorem dX7_dotsHold_90 : decode cX7_dotsHold 90 = .ok (.aload_n 0, 1) := by decide +kernel
theorem dX7_dotsHold_91 : decode cX7_dotsHold 91 = .ok (.getfield 45, 3) := by decide +kernel
theorem dX7_dotsHold_94 : decode cX7_dotsHold 94 = .ok (.iconst 1, 1) := by decide +kernel
theorem dX7_dotsHold_95 : decode cX7_dotsHold 95 = .ok (.iconst 0, 1) := by decide +kernel
theorem dX7_dotsHold_96 : decode cX7_dotsHold 96 = .ok (.invokevirtual 188, 3) := by decide +kernel
theorem dX7_dotsHold_99 : decode cX7_dotsHold 99 = .ok (.bipush 46, 2) := by decide +kernel
theorem dX7_dotsHold_101 : decode cX7_dotsHold 101 = .ok (.if_icmp .ne 38, 3) := by decide +kernel
theorem dX7_dotsHold_104 : decode cX7_dotsHold 104 = .ok (.aload_n 0, 1) := by decide +kernel
theorem dX7_dotsHold_105 : decode cX7_dotsHold 105 = .ok (.getfield 45, 3) := by decide +kernel
theorem dX7_dotsHold_108 : decode cX7_dotsHold 108 = .ok (.iconst 1, 1) := by decide +kernel
theorem dX7_dotsHold_109 : decode cX7_dotsHold 109 = .ok (.iconst 1, 1) := by decide +kernel
theorem dX7_dotsHold_110 : decode cX7_dotsHold 110 = .ok (.invokevirtual 188, 3) := by decide +kernel
theorem dX7_dotsHold_113 : decode cX7_dotsHold 113 = .ok (.bipush 46, 2) := by decide +kernel
theorem dX7_dotsHold_115 : decode cX7_dotsHold 115 = .ok (.if_icmp .ne 24, 3) := by decide +kernel
theorem dX7_dotsHold_118 : decode cX7_dotsHold 118 = .ok (.aload_n 0, 1) := by decide +kernel
theorem dX7_dotsHold_119 : decode cX7_dotsHold 119 = .ok (.getfield 41, 3) := by decide +kernel
theorem dX7_dotsHold_122 : decode cX7_dotsHold 122 = .ok (.aload_n 0, 1) := by decide +kernel
theorem dX7_dotsHold_123 : decode cX7_dotsHold 123 = .ok (.getfield 45, 3) := by decide +kernel
theorem dX7_dotsHold_126 : decode cX7_dotsHold 126 = .ok (.invokevirtual 170, 3) := by decide +kernel
theorem dX7_dotsHold_129 : decode cX7_dotsHold 129 = .ok (.invokevirtual 94, 3) := by decide +kernel
theorem dX7_dotsHold_132 : decode cX7_dotsHold 132 = .ok (.ifCond .eq 7, 3) := by decide +kernel
theorem dX7_dotsHold_135 : decode cX7_dotsHold 135 = .ok (.iconst 1, 1) := by decide +kernel
