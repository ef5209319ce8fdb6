theorem dX1_length_0 : decode cX1_length 0 = .ok (.aload_n 0, 1) := by decide +kernel
theorem dX1_length_1 : decode cX1_length 1 = .ok (.getfield 15, 3) := by decide +kernel
theorem dX1_length_4 : decode cX1_length 4 = .ok (.arraylength, 1) := by decide +kernel
theorem dX1_length_5 : decode cX1_length 5 = .ok (.ireturn, 1) := by decide +kernel
theorem dX1_get_0 : decode cX1_get 0 = .ok (.iload_n 1, 1) := by decide +kernel
theorem dX1_get_1 : decode cX1_get 1 = .ok (.ifCond .lt 25, 3) := by decide +kernel
theorem dX1_get_4 : decode cX1_get 4 = .ok (.iload_n 1, 1) := by decide +kernel
theorem dX1_get_5 : decode cX1_get 5 = .ok (.aload_n 0, 1) := by decide +kernel
theorem dX1_get_6 : decode cX1_get 6 = .ok (.getfield 15, 3) := by decide +kernel
theorem dX1_get_9 : decode cX1_get 9 = .ok (.arraylength, 1) := by decide +kernel
theorem dX1_get_10 : decode cX1_get 10 = .ok (.if_icmp .ge 16, 3) := by decide +kernel
theorem dX1_get_13 : decode cX1_get 13 = .ok (.aload_n 0, 1) := by decide +kernel
theorem dX1_get_14 : decode cX1_get 14 = .ok (.getfield 15, 3) := by decide +kernel
theorem dX1_get_17 : decode cX1_get 17 = .ok (.iload_n 1, 1) := by decide +kernel
theorem dX1_get_18 : decode cX1_get 18 = .ok (.baload, 1) := by decide +kernel
theorem dX1_get_19 : decode cX1_get 19 = .ok (.sipush 255, 3) := by decide +kernel
theorem dX1_get_22 : decode cX1_get 22 = .ok (.iand, 1) := by decide +kernel
theorem dX1_get_23 : decode cX1_get 23 = .ok (.goto 4, 3) := by decide +kernel
theorem dX1_get_26 : decode cX1_get 26 = .ok (.iconst 0, 1) := by decide +kernel
theorem dX1_get_27 : decode cX1_get 27 = .ok (.ireturn, 1) := by decide +kernel
theorem dX1_put_0 : decode cX1_put 0 = .ok (.iload_n 1, 1) := by decide +kernel
theorem dX1_put_1 : decode cX1_put 1 = .ok (.ifCond .lt 20, 3) := by decide +kernel
theorem dX1_put_4 : decode cX1_put 4 = .ok (.iload_n 1, 1) := by decide +kernel
theorem dX1_put_5 : decode cX1_put 5 = .ok (.aload_n 0, 1) := by decide +kernel
theorem dX1_put_6 : decode cX1_put 6 = .ok (.getfield 15, 3) := by decide +kernel
theorem dX1_put_9 : decode cX1_put 9 = .ok (.arraylength, 1) := by decide +kernel
theorem dX1_put_10 : decode cX1_put 10 = .ok (.if_icmp .ge 11, 3) := by decide +kernel
theorem dX1_put_13 : decode cX1_put 13 = .ok (.aload_n 0, 1) := by decide +kernel
theorem dX1_put_14 : decode cX1_put 14 = .ok (.getfield 15, 3) := by decide +kernel
theorem dX1_put_17 : decode cX1_put 17 = .ok (.iload_n 1, 1) := by decide +kernel
theorem dX1_put_18 : decode cX1_put 18 = .ok (.iload_n 2, 1) := by decide +kernel
theorem dX1_put_19 : decode cX1_put 19 = .ok (.i2b, 1) := by decide +kernel
theorem dX1_put_20 : decode cX1_put 20 = .ok (.bastore, 1) := by decide +kernel
theorem dX1_put_21 : decode cX1_put 21 = .ok (.return_, 1) := by decide +kernel
theorem dX1_get2_0 : decode cX1_get2 0 = .ok (.iload_n 1, 1) := by decide +kernel
theorem dX1_get2_1 : decode cX1_get2 1 = .ok (.ifCond .lt 14, 3) := by decide +kernel
theorem dX1_get2_4 : decode cX1_get2 4 = .ok (.iload_n 1, 1) := by decide +kernel
theorem dX1_get2_5 : decode cX1_get2 5 = .ok (.aload_n 0, 1) := by decide +kernel
theorem dX1_get2_6 : decode cX1_get2 6 = .ok (.getfield 15, 3) := by decide +kernel
theorem dX1_get2_9 : decode cX1_get2 9 = .ok (.arraylength, 1) := by decide +kernel
theorem dX1_get2_10 : decode cX1_get2 10 = .ok (.iconst 2, 1) := by decide +kernel
theorem dX1_get2_11 : decode cX1_get2 11 = .ok (.isub, 1) := by decide +kernel
theorem dX1_get2_12 : decode cX1_get2 12 = .ok (.if_icmp .le 5, 3) := by decide +kernel
theorem dX1_get2_15 : decode cX1_get2 15 = .ok (.iconst 0, 1) := by decide +kernel
theorem dX1_get2_16 : decode cX1_get2 16 = .ok (.ireturn, 1) := by decide +kernel
theorem dX1_get2_17 : decode cX1_get2 17 = .ok (.aload_n 0, 1) := by decide +kernel
theorem dX1_get2_18 : decode cX1_get2 18 = .ok (.getfield 15, 3) := by decide +kernel
theorem dX1_get2_21 : decode cX1_get2 21 = .ok (.iload_n 1, 1) := by decide +kernel
theorem dX1_get2_22 : decode cX1_get2 22 = .ok (.baload, 1) := by decide +kernel
theorem dX1_get2_23 : decode cX1_get2 23 = .ok (.sipush 255, 3) := by decide +kernel
theorem dX1_get2_26 : decode cX1_get2 26 = .ok (.iand, 1) := by decide +kernel
theorem dX1_get2_27 : decode cX1_get2 27 = .ok (.aload_n 0, 1) := by decide +kernel
theorem dX1_get2_28 : decode cX1_get2 28 = .ok (.getfield 15, 3) := by decide +kernel
theorem dX1_get2_31 : decode cX1_get2 31 = .ok (.iload_n 1, 1) := by decide +kernel
theorem dX1_get2_32 : decode cX1_get2 32 = .ok (.iconst 1, 1) := by decide +kernel
theorem dX1_get2_33 : decode cX1_get2 33 = .ok (.iadd, 1) := by decide +kernel
theorem dX1_get2_34 : decode cX1_get2 34 = .ok (.baload, 1) := by decide +kernel
theorem dX1_get2_35 : decode cX1_get2 35 = .ok (.sipush 255, 3) := by decide +kernel
theorem dX1_get2_38 : decode cX1_get2 38 = .ok (.iand, 1) := by decide +kernel
theorem dX1_get2_39 : decode cX1_get2 39 = .ok (.bipush 8, 2) := by decide +kernel
theorem dX1_get2_41 : decode cX1_get2 41 = .ok (.ishl, 1) := by decide +kernel
theorem dX1_get2_42 : decode cX1_get2 42 = .ok (.ior, 1) := by decide +kernel
theorem dX1_get2_43 : decode cX1_get2 43 = .ok (.ireturn, 1) := by decide +kernel
theorem dX1_put2_0 : decode cX1_put2 0 = .ok (.iload_n 1, 1) := by decide +kernel
theorem dX1_put2_1 : decode cX1_put2 1 = .ok (.ifCond .lt 35, 3) := by decide +kernel
theorem dX1_put2_4 : decode cX1_put2 4 = .ok (.iload_n 1, 1) := by decide +kernel
theorem dX1_put2_5 : decode cX1_put2 5 = .ok (.aload_n 0, 1) := by decide +kernel
theorem dX1_put2_6 : decode cX1_put2 6 = .ok (.getfield 15, 3) := by decide +kernel
theorem dX1_put2_9 : decode cX1_put2 9 = .ok (.arraylength, 1) := by decide +kernel
theorem dX1_put2_10 : decode cX1_put2 10 = .ok (.iconst 2, 1) := by decide +kernel
theorem dX1_put2_11 : decode cX1_put2 11 = .ok (.isub, 1) := by decide +kernel
theorem dX1_put2_12 : decode cX1_put2 12 = .ok (.if_icmp .gt 24, 3) := by decide +kernel
theorem dX1_put2_15 : decode cX1_put2 15 = .ok (.aload_n 0, 1) := by decide +kernel
theorem dX1_put2_16 : decode cX1_put2 16 = .ok (.getfield 15, 3) := by decide +kernel
theorem dX1_put2_19 : decode cX1_put2 19 = .ok (.iload_n 1, 1) := by decide +kernel
theorem dX1_put2_20 : decode cX1_put2 20 = .ok (.iload_n 2, 1) := by decide +kernel
theorem dX1_put2_21 : decode cX1_put2 21 = .ok (.i2b, 1) := by decide +kernel
theorem dX1_put2_22 : decode cX1_put2 22 = .ok (.bastore, 1) := by decide +kernel
theorem dX1_put2_23 : decode cX1_put2 23 = .ok (.aload_n 0, 1) := by decide +kernel
theorem dX1_put2_24 : decode cX1_put2 24 = .ok (.getfield 15, 3) := by decide +kernel
theorem dX1_put2_27 : decode cX1_put2 27 = .ok (.iload_n 1, 1) := by decide +kernel
theorem dX1_put2_28 : decode cX1_put2 28 = .ok (.iconst 1, 1) := by decide +kernel
theorem dX1_put2_29 : decode cX1_put2 29 = .ok (.iadd, 1) := by decide +kernel
theorem dX1_put2_30 : decode cX1_put2 30 = .ok (.iload_n 2, 1) := by decide +kernel
theorem dX1_put2_31 : decode cX1_put2 31 = .ok (.bipush 8, 2) := by decide +kernel
theorem dX1_put2_33 : decode cX1_put2 33 = .ok (.ishr, 1) := by decide +kernel
theorem dX1_put2_34 : decode cX1_put2 34 = .ok (.i2b, 1) := by decide +kernel
theorem dX1_put2_35 : decode cX1_put2 35 = .ok (.bastore, 1) := by decide +kernel
theorem dX1_put2_36 : decode cX1_put2 36 = .ok (.return_, 1) := by decide +kernel
theorem dX1_get4_0 : decode cX1_get4 0 = .ok (.iload_n 1, 1) := by decide +kernel
theorem dX1_get4_1 : decode cX1_get4 1 = .ok (.ifCond .lt 14, 3) := by decide +kernel
theorem dX1_get4_4 : decode cX1_get4 4 = .ok (.iload_n 1, 1) := by decide +kernel
theorem dX1_get4_5 : decode cX1_get4 5 = .ok (.aload_n 0, 1) := by decide +kernel
theorem dX1_get4_6 : decode cX1_get4 6 = .ok (.getfield 15, 3) := by decide +kernel
theorem dX1_get4_9 : decode cX1_get4 9 = .ok (.arraylength, 1) := by decide +kernel
theorem dX1_get4_10 : decode cX1_get4 10 = .ok (.iconst 4, 1) := by decide +kernel
theorem dX1_get4_11 : decode cX1_get4 11 = .ok (.isub, 1) := by decide +kernel
theorem dX1_get4_12 : decode cX1_get4 12 = .ok (.if_icmp .le 5, 3) := by decide +kernel
theorem dX1_get4_15 : decode cX1_get4 15 = .ok (.iconst 0, 1) := by decide +kernel
theorem dX1_get4_16 : decode cX1_get4 16 = .ok (.ireturn, 1) := by decide +kernel
theorem dX1_get4_17 : decode cX1_get4 17 = .ok (.aload_n 0, 1) := by decide +kernel
theorem dX1_get4_18 : decode cX1_get4 18 = .ok (.getfield 15, 3) := by decide +kernel
theorem dX1_get4_21 : decode cX1_get4 21 = .ok (.iload_n 1, 1) := by decide +kernel
theorem dX1_get4_22 : decode cX1_get4 22 = .ok (.baload, 1) := by decide +kernel
theorem dX1_get4_23 : decode cX1_get4 23 = .ok (.sipush 255, 3) := by decide +kernel
theorem dX1_get4_26 : decode cX1_get4 26 = .ok (.iand, 1) := by decide +kernel
theorem dX1_get4_27 : decode cX1_get4 27 = .ok (.aload_n 0, 1) := by decide +kernel
theorem dX1_get4_28 : decode cX1_get4 28 = .ok (.getfield 15, 3) := by decide +kernel
theorem dX1_get4_31 : decode cX1_get4 31 = .ok (.iload_n 1, 1) := by decide +kernel
theorem dX1_get4_32 : decode cX1_get4 32 = .ok (.iconst 1, 1) := by decide +kernel
theorem dX1_get4_33 : decode cX1_get4 33 = .ok (.iadd, 1) := by decide +kernel
theorem dX1_get4_34 : decode cX1_get4 34 = .ok (.baload, 1) := by decide +kernel
theorem dX1_get4_35 : decode cX1_get4 35 = .ok (.sipush 255, 3) := by decide +kernel
theorem dX1_get4_38 : decode cX1_get4 38 = .ok (.iand, 1) := by decide +kernel
theorem dX1_get4_39 : decode cX1_get4 39 = .ok (.bipush 8, 2) := by decide +kernel
theorem dX1_get4_41 : decode cX1_get4 41 = .ok (.ishl, 1) := by decide +kernel
theorem dX1_get4_42 : decode cX1_get4 42 = .ok (.ior, 1) := by decide +kernel
theorem dX1_get4_43 : decode cX1_get4 43 = .ok (.aload_n 0, 1) := by decide +kernel
theorem dX1_get4_44 : decode cX1_get4 44 = .ok (.getfield 15, 3) := by decide +kernel
theorem dX1_get4_47 : decode cX1_get4 47 = .ok (.iload_n 1, 1) := by decide +kernel
theorem dX1_get4_48 : decode cX1_get4 48 = .ok (.iconst 2, 1) := by decide +kernel
theorem dX1_get4_49 : decode cX1_get4 49 = .ok (.iadd, 1) := by decide +kernel
theorem dX1_get4_50 : decode cX1_get4 50 = .ok (.baload, 1) := by decide +kernel
theorem dX1_get4_51 : decode cX1_get4 51 = .ok (.sipush 255, 3) := by decide +kernel
theorem dX1_get4_54 : decode cX1_get4 54 = .ok (.iand, 1) := by decide +kernel
theorem dX1_get4_55 : decode cX1_get4 55 = .ok (.bipush 16, 2) := by decide +kernel
theorem dX1_get4_57 : decode cX1_get4 57 = .ok (.ishl, 1) := by decide +kernel
theorem dX1_get4_58 : decode cX1_get4 58 = .ok (.ior, 1) := by decide +kernel
theorem dX1_get4_59 : decode cX1_get4 59 = .ok (.aload_n 0, 1) := by decide +kernel
theorem dX1_get4_60 : decode cX1_get4 60 = .ok (.getfield 15, 3) := by decide +kernel
theorem dX1_get4_63 : decode cX1_get4 63 = .ok (.iload_n 1, 1) := by decide +kernel
theorem dX1_get4_64 : decode cX1_get4 64 = .ok (.iconst 3, 1) := by decide +kernel
theorem dX1_get4_65 : decode cX1_get4 65 = .ok (.iadd, 1) := by decide +kernel
theorem dX1_get4_66 : decode cX1_get4 66 = .ok (.baload, 1) := by decide +kernel
theorem dX1_get4_67 : decode cX1_get4 67 = .ok (.sipush 255, 3) := by decide +kernel
theorem dX1_get4_70 : decode cX1_get4 70 = .ok (.iand, 1) := by decide +kernel
theorem dX1_get4_71 : decode cX1_get4 71 = .ok (.bipush 24, 2) := by decide +kernel
theorem dX1_get4_73 : decode cX1_get4 73 = .ok (.ishl, 1) := by decide +kernel
theorem dX1_get4_74 : decode cX1_get4 74 = .ok (.ior, 1) := by decide +kernel
theorem dX1_get4_75 : decode cX1_get4 75 = .ok (.ireturn, 1) := by decide +kernel
theorem dX1_put4_0 : decode cX1_put4 0 = .ok (.iload_n 1, 1) := by decide +kernel
theorem dX1_put4_1 : decode cX1_put4 1 = .ok (.ifCond .lt 61, 3) := by decide +kernel
theorem dX1_put4_4 : decode cX1_put4 4 = .ok (.iload_n 1, 1) := by decide +kernel
theorem dX1_put4_5 : decode cX1_put4 5 = .ok (.aload_n 0, 1) := by decide +kernel
theorem dX1_put4_6 : decode cX1_put4 6 = .ok (.getfield 15, 3) := by decide +kernel
theorem dX1_put4_9 : decode cX1_put4 9 = .ok (.arraylength, 1) := by decide +kernel
theorem dX1_put4_10 : decode cX1_put4 10 = .ok (.iconst 4, 1) := by decide +kernel
theorem dX1_put4_11 : decode cX1_put4 11 = .ok (.isub, 1) := by decide +kernel
theorem dX1_put4_12 : decode cX1_put4 12 = .ok (.if_icmp .gt 50, 3) := by decide +kernel
theorem dX1_put4_15 : decode cX1_put4 15 = .ok (.aload_n 0, 1) := by decide +kernel
theorem dX1_put4_16 : decode cX1_put4 16 = .ok (.getfield 15, 3) := by decide +kernel
theorem dX1_put4_19 : decode cX1_put4 19 = .ok (.iload_n 1, 1) := by decide +kernel
theorem dX1_put4_20 : decode cX1_put4 20 = .ok (.iload_n 2, 1) := by decide +kernel
theorem dX1_put4_21 : decode cX1_put4 21 = .ok (.i2b, 1) := by decide +kernel
theorem dX1_put4_22 : decode cX1_put4 22 = .ok (.bastore, 1) := by decide +kernel
theorem dX1_put4_23 : decode cX1_put4 23 = .ok (.aload_n 0, 1) := by decide +kernel
theorem dX1_put4_24 : decode cX1_put4 24 = .ok (.getfield 15, 3) := by decide +kernel
theorem dX1_put4_27 : decode cX1_put4 27 = .ok (.iload_n 1, 1) := by decide +kernel
theorem dX1_put4_28 : decode cX1_put4 28 = .ok (.iconst 1, 1) := by decide +kernel
theorem dX1_put4_29 : decode cX1_put4 29 = .ok (.iadd, 1) := by decide +kernel
theorem dX1_put4_30 : decode cX1_put4 30 = .ok (.iload_n 2, 1) := by decide +kernel
theorem dX1_put4_31 : decode cX1_put4 31 = .ok (.bipush 8, 2) := by decide +kernel
theorem dX1_put4_33 : decode cX1_put4 33 = .ok (.ishr, 1) := by decide +kernel
theorem dX1_put4_34 : decode cX1_put4 34 = .ok (.i2b, 1) := by decide +kernel
theorem dX1_put4_35 : decode cX1_put4 35 = .ok (.bastore, 1) := by decide +kernel
theorem dX1_put4_36 : decode cX1_put4 36 = .ok (.aload_n 0, 1) := by decide +kernel
theorem dX1_put4_37 : decode cX1_put4 37 = .ok (.getfield 15, 3) := by decide +kernel
theorem dX1_put4_40 : decode cX1_put4 40 = .ok (.iload_n 1, 1) := by decide +kernel
theorem dX1_put4_41 : decode cX1_put4 41 = .ok (.iconst 2, 1) := by decide +kernel
theorem dX1_put4_42 : decode cX1_put4 42 = .ok (.iadd, 1) := by decide +kernel
theorem dX1_put4_43 : decode cX1_put4 43 = .ok (.iload_n 2, 1) := by decide +kernel
theorem dX1_put4_44 : decode cX1_put4 44 = .ok (.bipush 16, 2) := by decide +kernel
theorem dX1_put4_46 : decode cX1_put4 46 = .ok (.ishr, 1) := by decide +kernel
theorem dX1_put4_47 : decode cX1_put4 47 = .ok (.i2b, 1) := by decide +kernel
theorem dX1_put4_48 : decode cX1_put4 48 = .ok (.bastore, 1) := by decide +kernel
theorem dX1_put4_49 : decode cX1_put4 49 = .ok (.aload_n 0, 1) := by decide +kernel
theorem dX1_put4_50 : decode cX1_put4 50 = .ok (.getfield 15, 3) := by decide +kernel
theorem dX1_put4_53 : decode cX1_put4 53 = .ok (.iload_n 1, 1) := by decide +kernel
theorem dX1_put4_54 : decode cX1_put4 54 = .ok (.iconst 3, 1) := by decide +kernel
theorem dX1_put4_55 : decode cX1_put4 55 = .ok (.iadd, 1) := by decide +kernel
theorem dX1_put4_56 : decode cX1_put4 56 = .ok (.iload_n 2, 1) := by decide +kernel
theorem dX1_put4_57 : decode cX1_put4 57 = .ok (.bipush 24, 2) := by decide +kernel
theorem dX1_put4_59 : decode cX1_put4 59 = .ok (.ishr, 1) := by decide +kernel
theorem dX1_put4_60 : decode cX1_put4 60 = .ok (.i2b, 1) := by decide +kernel
theorem dX1_put4_61 : decode cX1_put4 61 = .ok (.bastore, 1) := by decide +kernel
theorem dX1_put4_62 : decode cX1_put4 62 = .ok (.return_, 1) := by decide +kernel
theorem dJ2_rangeCheck_0 : decode cJ2_rangeCheck 0 = .ok (.iload_n 1, 1) := by decide +kernel
theorem dJ2_rangeCheck_1 : decode cJ2_rangeCheck 1 = .ok (.iload_n 2, 1) := by decide +kernel
theorem dJ2_rangeCheck_2 : decode cJ2_rangeCheck 2 = .ok (.if_icmp .le 44, 3) := by decide +kernel
theorem dJ2_rangeCheck_5 : decode cJ2_rangeCheck 5 = .ok (.new 43, 3) := by decide +kernel
theorem dJ2_rangeCheck_8 : decode cJ2_rangeCheck 8 = .ok (.dup, 1) := by decide +kernel
theorem dJ2_rangeCheck_9 : decode cJ2_rangeCheck 9 = .ok (.new 45, 3) := by decide +kernel
theorem dJ2_rangeCheck_12 : decode cJ2_rangeCheck 12 = .ok (.dup, 1) := by decide +kernel
theorem dJ2_rangeCheck_13 : decode cJ2_rangeCheck 13 = .ok (.invokespecial 47, 3) := by decide +kernel
theorem dJ2_rangeCheck_16 : decode cJ2_rangeCheck 16 = .ok (.ldc 48, 2) := by decide +kernel
theorem dJ2_rangeCheck_18 : decode cJ2_rangeCheck 18 = .ok (.invokevirtual 50, 3) := by decide +kernel
theorem dJ2_rangeCheck_21 : decode cJ2_rangeCheck 21 = .ok (.iload_n 1, 1) := by decide +kernel
theorem dJ2_rangeCheck_22 : decode cJ2_rangeCheck 22 = .ok (.invokevirtual 54, 3) := by decide +kernel
theorem dJ2_rangeCheck_25 : decode cJ2_rangeCheck 25 = .ok (.ldc 57, 2) := by decide +kernel
theorem dJ2_rangeCheck_27 : decode cJ2_rangeCheck 27 = .ok (.invokevirtual 50, 3) := by decide +kernel
theorem dJ2_rangeCheck_30 : decode cJ2_rangeCheck 30 = .ok (.iload_n 2, 1) := by decide +kernel
theorem dJ2_rangeCheck_31 : decode cJ2_rangeCheck 31 = .ok (.invokevirtual 54, 3) := by decide +kernel
theorem dJ2_rangeCheck_34 : decode cJ2_rangeCheck 34 = .ok (.ldc 59, 2) := by decide +kernel
theorem dJ2_rangeCheck_36 : decode cJ2_rangeCheck 36 = .ok (.invokevirtual 50, 3) := by decide +kernel
theorem dJ2_rangeCheck_39 : decode cJ2_rangeCheck 39 = .ok (.invokevirtual 61, 3) := by decide +kernel
theorem dJ2_rangeCheck_42 : decode cJ2_rangeCheck 42 = .ok (.invokespecial 65, 3) := by decide +kernel
theorem dJ2_rangeCheck_45 : decode cJ2_rangeCheck 45 = .ok (.athrow, 1) := by decide +kernel
theorem dJ2_rangeCheck_46 : decode cJ2_rangeCheck 46 = .ok (.iload_n 1, 1) := by decide +kernel
theorem dJ2_rangeCheck_47 : decode cJ2_rangeCheck 47 = .ok (.ifCond .ge 12, 3) := by decide +kernel
theorem dJ2_rangeCheck_50 : decode cJ2_rangeCheck 50 = .ok (.new 68, 3) := by decide +kernel
theorem dJ2_rangeCheck_53 : decode cJ2_rangeCheck 53 = .ok (.dup, 1) := by decide +kernel
theorem dJ2_rangeCheck_54 : decode cJ2_rangeCheck 54 = .ok (.iload_n 1, 1) := by decide +kernel
theorem dJ2_rangeCheck_55 : decode cJ2_rangeCheck 55 = .ok (.invokespecial 70, 3) := by decide +kernel
theorem dJ2_rangeCheck_58 : decode cJ2_rangeCheck 58 = .ok (.athrow, 1) := by decide +kernel
theorem dJ2_rangeCheck_59 : decode cJ2_rangeCheck 59 = .ok (.iload_n 2, 1) := by decide +kernel
theorem dJ2_rangeCheck_60 : decode cJ2_rangeCheck 60 = .ok (.iload_n 0, 1) := by decide +kernel
theorem dJ2_rangeCheck_61 : decode cJ2_rangeCheck 61 = .ok (.if_icmp .le 12, 3) := by decide +kernel
theorem dJ2_rangeCheck_64 : decode cJ2_rangeCheck 64 = .ok (.new 68, 3) := by decide +kernel
theorem dJ2_rangeCheck_67 : decode cJ2_rangeCheck 67 = .ok (.dup, 1) := by decide +kernel
theorem dJ2_rangeCheck_68 : decode cJ2_rangeCheck 68 = .ok (.iload_n 2, 1) := by decide +kernel
theorem dJ2_rangeCheck_69 : decode cJ2_rangeCheck 69 = .ok (.invokespecial 70, 3) := by decide +kernel
theorem dJ2_rangeCheck_72 : decode cJ2_rangeCheck 72 = .ok (.athrow, 1) := by decide +kernel
theorem dJ2_rangeCheck_73 : decode cJ2_rangeCheck 73 = .ok (.return_, 1) := by decide +kernel
theorem dJ2_fill___0 : decode cJ2_fill__ 0 = .ok (.aload_n 0, 1) := by decide +kernel
theorem dJ2_fill___1 : decode cJ2_fill__ 1 = .ok (.arraylength, 1) := by decide +kernel
theorem dJ2_fill___2 : decode cJ2_fill__ 2 = .ok (.iload_n 1, 1) := by decide +kernel
theorem dJ2_fill___3 : decode cJ2_fill__ 3 = .ok (.iload_n 2, 1) := by decide +kernel
theorem dJ2_fill___4 : decode cJ2_fill__ 4 = .ok (.invokestatic 13, 3) := by decide +kernel
theorem dJ2_fill___7 : decode cJ2_fill__ 7 = .ok (.iload_n 1, 1) := by decide +kernel
theorem dJ2_fill___8 : decode cJ2_fill__ 8 = .ok (.istore 4, 2) := by decide +kernel
theorem dJ2_fill___10 : decode cJ2_fill__ 10 = .ok (.iload 4, 2) := by decide +kernel
theorem dJ2_fill___12 : decode cJ2_fill__ 12 = .ok (.iload_n 2, 1) := by decide +kernel
theorem dJ2_fill___13 : decode cJ2_fill__ 13 = .ok (.if_icmp .ge 14, 3) := by decide +kernel
theorem dJ2_fill___16 : decode cJ2_fill__ 16 = .ok (.aload_n 0, 1) := by decide +kernel
theorem dJ2_fill___17 : decode cJ2_fill__ 17 = .ok (.iload 4, 2) := by decide +kernel
theorem dJ2_fill___19 : decode cJ2_fill__ 19 = .ok (.iload_n 3, 1) := by decide +kernel
theorem dJ2_fill___20 : decode cJ2_fill__ 20 = .ok (.bastore, 1) := by decide +kernel
theorem dJ2_fill___21 : decode cJ2_fill__ 21 = .ok (.iinc 4 1, 3) := by decide +kernel
theorem dJ2_fill___24 : decode cJ2_fill__ 24 = .ok (.goto (-14), 3) := by decide +kernel
theorem dJ2_fill___27 : decode cJ2_fill__ 27 = .ok (.return_, 1) := by decide +kernel
theorem dX1_fill_0 : decode cX1_fill 0 = .ok (.iload_n 1, 1) := by decide +kernel
theorem dX1_fill_1 : decode cX1_fill 1 = .ok (.ifCond .lt 28, 3) := by decide +kernel
theorem dX1_fill_4 : decode cX1_fill 4 = .ok (.iload_n 1, 1) := by decide +kernel
theorem dX1_fill_5 : decode cX1_fill 5 = .ok (.iload_n 2, 1) := by decide +kernel
theorem dX1_fill_6 : decode cX1_fill 6 = .ok (.if_icmp .gt 23, 3) := by decide +kernel
theorem dX1_fill_9 : decode cX1_fill 9 = .ok (.iload_n 2, 1) := by decide +kernel
theorem dX1_fill_10 : decode cX1_fill 10 = .ok (.aload_n 0, 1) := by decide +kernel
theorem dX1_fill_11 : decode cX1_fill 11 = .ok (.getfield 15, 3) := by decide +kernel
theorem dX1_fill_14 : decode cX1_fill 14 = .ok (.arraylength, 1) := by decide +kernel
theorem dX1_fill_15 : decode cX1_fill 15 = .ok (.if_icmp .gt 14, 3) := by decide +kernel
theorem dX1_fill_18 : decode cX1_fill 18 = .ok (.aload_n 0, 1) := by decide +kernel
theorem dX1_fill_19 : decode cX1_fill 19 = .ok (.getfield 15, 3) := by decide +kernel
theorem dX1_fill_22 : decode cX1_fill 22 = .ok (.iload_n 1, 1) := by decide +kernel
theorem dX1_fill_23 : decode cX1_fill 23 = .ok (.iload_n 2, 1) := by decide +kernel
theorem dX1_fill_24 : decode cX1_fill 24 = .ok (.iload_n 3, 1) := by decide +kernel
theorem dX1_fill_25 : decode cX1_fill 25 = .ok (.i2b, 1) := by decide +kernel
theorem dX1_fill_26 : decode cX1_fill 26 = .ok (.invokestatic 21, 3) := by decide +kernel
theorem dX1_fill_29 : decode cX1_fill 29 = .ok (.return_, 1) := by decide +kernel
theorem dX1_copy_0 : decode cX1_copy 0 = .ok (.iload_n 3, 1) := by decide +kernel
theorem dX1_copy_1 : decode cX1_copy 1 = .ok (.ifCond .lt 47, 3) := by decide +kernel
theorem dX1_copy_4 : decode cX1_copy 4 = .ok (.iload_n 1, 1) := by decide +kernel
theorem dX1_copy_5 : decode cX1_copy 5 = .ok (.ifCond .lt 43, 3) := by decide +kernel
theorem dX1_copy_8 : decode cX1_copy 8 = .ok (.iload_n 2, 1) := by decide +kernel
theorem dX1_copy_9 : decode cX1_copy 9 = .ok (.ifCond .lt 39, 3) := by decide +kernel
theorem dX1_copy_12 : decode cX1_copy 12 = .ok (.iload_n 1, 1) := by decide +kernel
theorem dX1_copy_13 : decode cX1_copy 13 = .ok (.aload_n 0, 1) := by decide +kernel
theorem dX1_copy_14 : decode cX1_copy 14 = .ok (.getfield 15, 3) := by decide +kernel
theorem dX1_copy_17 : decode cX1_copy 17 = .ok (.arraylength, 1) := by decide +kernel
theorem dX1_copy_18 : decode cX1_copy 18 = .ok (.iload_n 3, 1) := by decide +kernel
theorem dX1_copy_19 : decode cX1_copy 19 = .ok (.isub, 1) := by decide +kernel
theorem dX1_copy_20 : decode cX1_copy 20 = .ok (.if_icmp .gt 28, 3) := by decide +kernel
theorem dX1_copy_23 : decode cX1_copy 23 = .ok (.iload_n 2, 1) := by decide +kernel
theorem dX1_copy_24 : decode cX1_copy 24 = .ok (.aload_n 0, 1) := by decide +kernel
theorem dX1_copy_25 : decode cX1_copy 25 = .ok (.getfield 15, 3) := by decide +kernel
theorem dX1_copy_28 : decode cX1_copy 28 = .ok (.arraylength, 1) := by decide +kernel
theorem dX1_copy_29 : decode cX1_copy 29 = .ok (.iload_n 3, 1) := by decide +kernel
theorem dX1_copy_30 : decode cX1_copy 30 = .ok (.isub, 1) := by decide +kernel
theorem dX1_copy_31 : decode cX1_copy 31 = .ok (.if_icmp .gt 17, 3) := by decide +kernel
theorem dX1_copy_34 : decode cX1_copy 34 = .ok (.aload_n 0, 1) := by decide +kernel
theorem dX1_copy_35 : decode cX1_copy 35 = .ok (.getfield 15, 3) := by decide +kernel
theorem dX1_copy_38 : decode cX1_copy 38 = .ok (.iload_n 1, 1) := by decide +kernel
theorem dX1_copy_39 : decode cX1_copy 39 = .ok (.aload_n 0, 1) := by decide +kernel
theorem dX1_copy_40 : decode cX1_copy 40 = .ok (.getfield 15, 3) := by decide +kernel
theorem dX1_copy_43 : decode cX1_copy 43 = .ok (.iload_n 2, 1) := by decide +kernel
theorem dX1_copy_44 : decode cX1_copy 44 = .ok (.iload_n 3, 1) := by decide +kernel
theorem dX1_copy_45 : decode cX1_copy 45 = .ok (.invokestatic 27, 3) := by decide +kernel
theorem dX1_copy_48 : decode cX1_copy 48 = .ok (.return_, 1) := by decide +kernel
theorem dX1_isZero_0 : decode cX1_isZero 0 = .ok (.iload_n 1, 1) := by decide +kernel
theorem dX1_isZero_1 : decode cX1_isZero 1 = .ok (.istore_n 3, 1) := by decide +kernel
theorem dX1_isZero_2 : decode cX1_isZero 2 = .ok (.iload_n 3, 1) := by decide +kernel
theorem dX1_isZero_3 : decode cX1_isZero 3 = .ok (.iload_n 2, 1) := by decide +kernel
theorem dX1_isZero_4 : decode cX1_isZero 4 = .ok (.iconst 4, 1) := by decide +kernel
theorem dX1_isZero_5 : decode cX1_isZero 5 = .ok (.isub, 1) := by decide +kernel
theorem dX1_isZero_6 : decode cX1_isZero 6 = .ok (.if_icmp .gt 19, 3) := by decide +kernel
theorem dX1_isZero_9 : decode cX1_isZero 9 = .ok (.aload_n 0, 1) := by decide +kernel
theorem dX1_isZero_10 : decode cX1_isZero 10 = .ok (.iload_n 3, 1) := by decide +kernel
theorem dX1_isZero_11 : decode cX1_isZero 11 = .ok (.invokevirtual 33, 3) := by decide +kernel
theorem dX1_isZero_14 : decode cX1_isZero 14 = .ok (.ifCond .eq 5, 3) := by decide +kernel
theorem dX1_isZero_17 : decode cX1_isZero 17 = .ok (.iconst 0, 1) := by decide +kernel
theorem dX1_isZero_18 : decode cX1_isZero 18 = .ok (.ireturn, 1) := by decide +kernel
theorem dX1_isZero_19 : decode cX1_isZero 19 = .ok (.iinc 3 4, 3) := by decide +kernel
theorem dX1_isZero_22 : decode cX1_isZero 22 = .ok (.goto (-20), 3) := by decide +kernel
theorem dX1_isZero_25 : decode cX1_isZero 25 = .ok (.iload_n 3, 1) := by decide +kernel
theorem dX1_isZero_26 : decode cX1_isZero 26 = .ok (.iload_n 2, 1) := by decide +kernel
theorem dX1_isZero_27 : decode cX1_isZero 27 = .ok (.if_icmp .ge 19, 3) := by decide +kernel
theorem dX1_isZero_30 : decode cX1_isZero 30 = .ok (.aload_n 0, 1) := by decide +kernel
theorem dX1_isZero_31 : decode cX1_isZero 31 = .ok (.iload_n 3, 1) := by decide +kernel
theorem dX1_isZero_32 : decode cX1_isZero 32 = .ok (.invokevirtual 37, 3) := by decide +kernel
theorem dX1_isZero_35 : decode cX1_isZero 35 = .ok (.ifCond .eq 5, 3) := by decide +kernel
theorem dX1_isZero_38 : decode cX1_isZero 38 = .ok (.iconst 0, 1) := by decide +kernel
theorem dX1_isZero_39 : decode cX1_isZero 39 = .ok (.ireturn, 1) := by decide +kernel
theorem dX1_isZero_40 : decode cX1_isZero 40 = .ok (.iinc 3 1, 3) := by decide +kernel
theorem dX1_isZero_43 : decode cX1_isZero 43 = .ok (.goto (-18), 3) := by decide +kernel
theorem dX1_isZero_46 : decode cX1_isZero 46 = .ok (.iconst 1, 1) := by decide +kernel
theorem dX1_isZero_47 : decode cX1_isZero 47 = .ok (.ireturn, 1) := by decide +kernel
theorem dX2_choose_0 : decode cX2_choose 0 = .ok (.iload_n 1, 1) := by decide +kernel
theorem dX2_choose_1 : decode cX2_choose 1 = .ok (.bipush 64, 2) := by decide +kernel
theorem dX2_choose_3 : decode cX2_choose 3 = .ok (.if_icmp .eq 17, 3) := by decide +kernel
theorem dX2_choose_6 : decode cX2_choose 6 = .ok (.iload_n 1, 1) := by decide +kernel
theorem dX2_choose_7 : decode cX2_choose 7 = .ok (.sipush 128, 3) := by decide +kernel
theorem dX2_choose_10 : decode cX2_choose 10 = .ok (.if_icmp .eq 10, 3) := by decide +kernel
theorem dX2_choose_13 : decode cX2_choose 13 = .ok (.iload_n 1, 1) := by decide +kernel
theorem dX2_choose_14 : decode cX2_choose 14 = .ok (.sipush 256, 3) := by decide +kernel
theorem dX2_choose_17 : decode cX2_choose 17 = .ok (.if_icmp .ne 7, 3) := by decide +kernel
theorem dX2_choose_20 : decode cX2_choose 20 = .ok (.iconst 1, 1) := by decide +kernel
theorem dX2_choose_21 : decode cX2_choose 21 = .ok (.goto 4, 3) := by decide +kernel
theorem dX2_choose_24 : decode cX2_choose 24 = .ok (.iconst 0, 1) := by decide +kernel
theorem dX2_choose_25 : decode cX2_choose 25 = .ok (.istore_n 3, 1) := by decide +kernel
theorem dX2_choose_26 : decode cX2_choose 26 = .ok (.iload_n 3, 1) := by decide +kernel
theorem dX2_choose_27 : decode cX2_choose 27 = .ok (.ifCond .eq 16, 3) := by decide +kernel
theorem dX2_choose_30 : decode cX2_choose 30 = .ok (.iload_n 2, 1) := by decide +kernel
theorem dX2_choose_31 : decode cX2_choose 31 = .ok (.bipush 12, 2) := by decide +kernel
theorem dX2_choose_33 : decode cX2_choose 33 = .ok (.if_icmp .lt 10, 3) := by decide +kernel
theorem dX2_choose_36 : decode cX2_choose 36 = .ok (.iload_n 2, 1) := by decide +kernel
theorem dX2_choose_37 : decode cX2_choose 37 = .ok (.sipush 2000, 3) := by decide +kernel
theorem dX2_choose_40 : decode cX2_choose 40 = .ok (.if_icmp .le 5, 3) := by decide +kernel
theorem dX2_choose_43 : decode cX2_choose 43 = .ok (.iconst 0, 1) := by decide +kernel
theorem dX2_choose_44 : decode cX2_choose 44 = .ok (.ireturn, 1) := by decide +kernel
theorem dX2_choose_45 : decode cX2_choose 45 = .ok (.aload_n 0, 1) := by decide +kernel
theorem dX2_choose_46 : decode cX2_choose 46 = .ok (.getfield 9, 3) := by decide +kernel
theorem dX2_choose_49 : decode cX2_choose 49 = .ok (.iconst 1, 1) := by decide +kernel
theorem dX2_choose_50 : decode cX2_choose 50 = .ok (.isub, 1) := by decide +kernel
theorem dX2_choose_51 : decode cX2_choose 51 = .ok (.iload_n 1, 1) := by decide +kernel
theorem dX2_choose_52 : decode cX2_choose 52 = .ok (.iadd, 1) := by decide +kernel
theorem dX2_choose_53 : decode cX2_choose 53 = .ok (.iconst 1, 1) := by decide +kernel
theorem dX2_choose_54 : decode cX2_choose 54 = .ok (.isub, 1) := by decide +kernel
theorem dX2_choose_55 : decode cX2_choose 55 = .ok (.iload_n 1, 1) := by decide +kernel
theorem dX2_choose_56 : decode cX2_choose 56 = .ok (.idiv, 1) := by decide +kernel
theorem dX2_choose_57 : decode cX2_choose 57 = .ok (.istore 4, 2) := by decide +kernel
theorem dX2_choose_59 : decode cX2_choose 59 = .ok (.iload 4, 2) := by decide +kernel
theorem dX2_choose_61 : decode cX2_choose 61 = .ok (.iconst 1, 1) := by decide +kernel
theorem dX2_choose_62 : decode cX2_choose 62 = .ok (.if_icmp .ge 5, 3) := by decide +kernel
theorem dX2_choose_65 : decode cX2_choose 65 = .ok (.iconst 0, 1) := by decide +kernel
theorem dX2_choose_66 : decode cX2_choose 66 = .ok (.ireturn, 1) := by decide +kernel
theorem dX2_choose_67 : decode cX2_choose 67 = .ok (.iload_n 2, 1) := by decide +kernel
theorem dX2_choose_68 : decode cX2_choose 68 = .ok (.bipush 8, 2) := by decide +kernel
theorem dX2_choose_70 : decode cX2_choose 70 = .ok (.iload 4, 2) := by decide +kernel
theorem dX2_choose_72 : decode cX2_choose 72 = .ok (.imul, 1) := by decide +kernel
theorem dX2_choose_73 : decode cX2_choose 73 = .ok (.iadd, 1) := by decide +kernel
theorem dX2_choose_74 : decode cX2_choose 74 = .ok (.iconst 1, 1) := by decide +kernel
theorem dX2_choose_75 : decode cX2_choose 75 = .ok (.isub, 1) := by decide +kernel
theorem dX2_choose_76 : decode cX2_choose 76 = .ok (.bipush 8, 2) := by decide +kernel
theorem dX2_choose_78 : decode cX2_choose 78 = .ok (.iload 4, 2) := by decide +kernel
theorem dX2_choose_80 : decode cX2_choose 80 = .ok (.imul, 1) := by decide +kernel
theorem dX2_choose_81 : decode cX2_choose 81 = .ok (.idiv, 1) := by decide +kernel
theorem dX2_choose_82 : decode cX2_choose 82 = .ok (.istore 5, 2) := by decide +kernel
theorem dX2_choose_84 : decode cX2_choose 84 = .ok (.aload_n 0, 1) := by decide +kernel
theorem dX2_choose_85 : decode cX2_choose 85 = .ok (.getfield 9, 3) := by decide +kernel
theorem dX2_choose_88 : decode cX2_choose 88 = .ok (.iconst 1, 1) := by decide +kernel
theorem dX2_choose_89 : decode cX2_choose 89 = .ok (.isub, 1) := by decide +kernel
theorem dX2_choose_90 : decode cX2_choose 90 = .ok (.iload 4, 2) := by decide +kernel
theorem dX2_choose_92 : decode cX2_choose 92 = .ok (.iconst 1, 1) := by decide +kernel
theorem dX2_choose_93 : decode cX2_choose 93 = .ok (.isub, 1) := by decide +kernel
theorem dX2_choose_94 : decode cX2_choose 94 = .ok (.iload_n 1, 1) := by decide +kernel
theorem dX2_choose_95 : decode cX2_choose 95 = .ok (.imul, 1) := by decide +kernel
theorem dX2_choose_96 : decode cX2_choose 96 = .ok (.isub, 1) := by decide +kernel
theorem dX2_choose_97 : decode cX2_choose 97 = .ok (.istore 6, 2) := by decide +kernel
theorem dX2_choose_99 : decode cX2_choose 99 = .ok (.iload 6, 2) := by decide +kernel
theorem dX2_choose_101 : decode cX2_choose 101 = .ok (.iconst 4, 1) := by decide +kernel
theorem dX2_choose_102 : decode cX2_choose 102 = .ok (.iload 5, 2) := by decide +kernel
theorem dX2_choose_104 : decode cX2_choose 104 = .ok (.iadd, 1) := by decide +kernel
theorem dX2_choose_105 : decode cX2_choose 105 = .ok (.bipush 8, 2) := by decide +kernel
theorem dX2_choose_107 : decode cX2_choose 107 = .ok (.iadd, 1) := by decide +kernel
theorem dX2_choose_108 : decode cX2_choose 108 = .ok (.if_icmp .ge 5, 3) := by decide +kernel
theorem dX2_choose_111 : decode cX2_choose 111 = .ok (.iconst 0, 1) := by decide +kernel
theorem dX2_choose_112 : decode cX2_choose 112 = .ok (.ireturn, 1) := by decide +kernel
theorem dX2_choose_113 : decode cX2_choose 113 = .ok (.aload_n 0, 1) := by decide +kernel
theorem dX2_choose_114 : decode cX2_choose 114 = .ok (.iload_n 1, 1) := by decide +kernel
theorem dX2_choose_115 : decode cX2_choose 115 = .ok (.putfield 15, 3) := by decide +kernel
theorem dX2_choose_118 : decode cX2_choose 118 = .ok (.aload_n 0, 1) := by decide +kernel
theorem dX2_choose_119 : decode cX2_choose 119 = .ok (.iload 4, 2) := by decide +kernel
theorem dX2_choose_121 : decode cX2_choose 121 = .ok (.putfield 18, 3) := by decide +kernel
theorem dX2_choose_124 : decode cX2_choose 124 = .ok (.aload_n 0, 1) := by decide +kernel
theorem dX2_choose_125 : decode cX2_choose 125 = .ok (.bipush 8, 2) := by decide +kernel
theorem dX2_choose_127 : decode cX2_choose 127 = .ok (.iload 5, 2) := by decide +kernel
theorem dX2_choose_129 : decode cX2_choose 129 = .ok (.imul, 1) := by decide +kernel
theorem dX2_choose_130 : decode cX2_choose 130 = .ok (.putfield 21, 3) := by decide +kernel
theorem dX2_choose_133 : decode cX2_choose 133 = .ok (.iconst 1, 1) := by decide +kernel
theorem dX2_choose_134 : decode cX2_choose 134 = .ok (.ireturn, 1) := by decide +kernel
theorem dX2_blocks_0 : decode cX2_blocks 0 = .ok (.aload_n 0, 1) := by decide +kernel
theorem dX2_blocks_1 : decode cX2_blocks 1 = .ok (.getfield 9, 3) := by decide +kernel
theorem dX2_blocks_4 : decode cX2_blocks 4 = .ok (.ireturn, 1) := by decide +kernel
theorem dX2_groups_0 : decode cX2_groups 0 = .ok (.aload_n 0, 1) := by decide +kernel
theorem dX2_groups_1 : decode cX2_groups 1 = .ok (.getfield 18, 3) := by decide +kernel
theorem dX2_groups_4 : decode cX2_groups 4 = .ok (.ireturn, 1) := by decide +kernel
theorem dX2_groupBlocks_0 : decode cX2_groupBlocks 0 = .ok (.aload_n 0, 1) := by decide +kernel
theorem dX2_groupBlocks_1 : decode cX2_groupBlocks 1 = .ok (.getfield 15, 3) := by decide +kernel
theorem dX2_groupBlocks_4 : decode cX2_groupBlocks 4 = .ok (.ireturn, 1) := by decide +kernel
theorem dX2_groupInodes_0 : decode cX2_groupInodes 0 = .ok (.aload_n 0, 1) := by decide +kernel
theorem dX2_groupInodes_1 : decode cX2_groupInodes 1 = .ok (.getfield 21, 3) := by decide +kernel
theorem dX2_groupInodes_4 : decode cX2_groupInodes 4 = .ok (.ireturn, 1) := by decide +kernel
theorem dX2_inodes_0 : decode cX2_inodes 0 = .ok (.aload_n 0, 1) := by decide +kernel
theorem dX2_inodes_1 : decode cX2_inodes 1 = .ok (.getfield 18, 3) := by decide +kernel
theorem dX2_inodes_4 : decode cX2_inodes 4 = .ok (.aload_n 0, 1) := by decide +kernel
theorem dX2_inodes_5 : decode cX2_inodes 5 = .ok (.getfield 21, 3) := by decide +kernel
theorem dX2_inodes_8 : decode cX2_inodes 8 = .ok (.imul, 1) := by decide +kernel
theorem dX2_inodes_9 : decode cX2_inodes 9 = .ok (.ireturn, 1) := by decide +kernel
theorem dX2_fixedBlocks_0 : decode cX2_fixedBlocks 0 = .ok (.iconst 4, 1) := by decide +kernel
theorem dX2_fixedBlocks_1 : decode cX2_fixedBlocks 1 = .ok (.aload_n 0, 1) := by decide +kernel
theorem dX2_fixedBlocks_2 : decode cX2_fixedBlocks 2 = .ok (.getfield 21, 3) := by decide +kernel
theorem dX2_fixedBlocks_5 : decode cX2_fixedBlocks 5 = .ok (.bipush 8, 2) := by decide +kernel
theorem dX2_fixedBlocks_7 : decode cX2_fixedBlocks 7 = .ok (.idiv, 1) := by decide +kernel
theorem dX2_fixedBlocks_8 : decode cX2_fixedBlocks 8 = .ok (.iadd, 1) := by decide +kernel
theorem dX2_fixedBlocks_9 : decode cX2_fixedBlocks 9 = .ok (.ireturn, 1) := by decide +kernel
theorem dX2_firstBlock_0 : decode cX2_firstBlock 0 = .ok (.iconst 1, 1) := by decide +kernel
theorem dX2_firstBlock_1 : decode cX2_firstBlock 1 = .ok (.iload_n 1, 1) := by decide +kernel
theorem dX2_firstBlock_2 : decode cX2_firstBlock 2 = .ok (.aload_n 0, 1) := by decide +kernel
theorem dX2_firstBlock_3 : decode cX2_firstBlock 3 = .ok (.getfield 15, 3) := by decide +kernel
theorem dX2_firstBlock_6 : decode cX2_firstBlock 6 = .ok (.imul, 1) := by decide +kernel
theorem dX2_firstBlock_7 : decode cX2_firstBlock 7 = .ok (.iadd, 1) := by decide +kernel
theorem dX2_firstBlock_8 : decode cX2_firstBlock 8 = .ok (.ireturn, 1) := by decide +kernel
theorem dX2_blocksIn_0 : decode cX2_blocksIn 0 = .ok (.aload_n 0, 1) := by decide +kernel
theorem dX2_blocksIn_1 : decode cX2_blocksIn 1 = .ok (.getfield 15, 3) := by decide +kernel
theorem dX2_blocksIn_4 : decode cX2_blocksIn 4 = .ok (.aload_n 0, 1) := by decide +kernel
theorem dX2_blocksIn_5 : decode cX2_blocksIn 5 = .ok (.getfield 9, 3) := by decide +kernel
theorem dX2_blocksIn_8 : decode cX2_blocksIn 8 = .ok (.aload_n 0, 1) := by decide +kernel
theorem dX2_blocksIn_9 : decode cX2_blocksIn 9 = .ok (.iload_n 1, 1) := by decide +kernel
theorem dX2_blocksIn_10 : decode cX2_blocksIn 10 = .ok (.invokevirtual 24, 3) := by decide +kernel
theorem dX2_blocksIn_13 : decode cX2_blocksIn 13 = .ok (.isub, 1) := by decide +kernel
theorem dX2_blocksIn_14 : decode cX2_blocksIn 14 = .ok (.invokestatic 28, 3) := by decide +kernel
theorem dX2_blocksIn_17 : decode cX2_blocksIn 17 = .ok (.ireturn, 1) := by decide +kernel
theorem dX2_partAt_0 : decode cX2_partAt 0 = .ok (.iconst 1, 1) := by decide +kernel
theorem dX2_partAt_1 : decode cX2_partAt 1 = .ok (.iload_n 1, 1) := by decide +kernel
theorem dX2_partAt_2 : decode cX2_partAt 2 = .ok (.aload_n 0, 1) := by decide +kernel
theorem dX2_partAt_3 : decode cX2_partAt 3 = .ok (.getfield 15, 3) := by decide +kernel
theorem dX2_partAt_6 : decode cX2_partAt 6 = .ok (.imul, 1) := by decide +kernel
theorem dX2_partAt_7 : decode cX2_partAt 7 = .ok (.iadd, 1) := by decide +kernel
theorem dX2_partAt_8 : decode cX2_partAt 8 = .ok (.iload_n 2, 1) := by decide +kernel
theorem dX2_partAt_9 : decode cX2_partAt 9 = .ok (.iadd, 1) := by decide +kernel
theorem dX2_partAt_10 : decode cX2_partAt 10 = .ok (.sipush 1024, 3) := by decide +kernel
theorem dX2_partAt_13 : decode cX2_partAt 13 = .ok (.imul, 1) := by decide +kernel
theorem dX2_partAt_14 : decode cX2_partAt 14 = .ok (.ireturn, 1) := by decide +kernel
theorem dX2_groupOfInode_0 : decode cX2_groupOfInode 0 = .ok (.aload_n 0, 1) := by decide +kernel
theorem dX2_groupOfInode_1 : decode cX2_groupOfInode 1 = .ok (.getfield 21, 3) := by decide +kernel
theorem dX2_groupOfInode_4 : decode cX2_groupOfInode 4 = .ok (.ifCond .le 14, 3) := by decide +kernel
theorem dX2_groupOfInode_7 : decode cX2_groupOfInode 7 = .ok (.iload_n 1, 1) := by decide +kernel
theorem dX2_groupOfInode_8 : decode cX2_groupOfInode 8 = .ok (.iconst 1, 1) := by decide +kernel
theorem dX2_groupOfInode_9 : decode cX2_groupOfInode 9 = .ok (.isub, 1) := by decide +kernel
theorem dX2_groupOfInode_10 : decode cX2_groupOfInode 10 = .ok (.aload_n 0, 1) := by decide +kernel
theorem dX2_groupOfInode_11 : decode cX2_groupOfInode 11 = .ok (.getfield 21, 3) := by decide +kernel
theorem dX2_groupOfInode_14 : decode cX2_groupOfInode 14 = .ok (.idiv, 1) := by decide +kernel
theorem dX2_groupOfInode_15 : decode cX2_groupOfInode 15 = .ok (.goto 4, 3) := by decide +kernel
theorem dX2_groupOfInode_18 : decode cX2_groupOfInode 18 = .ok (.iconst 0, 1) := by decide +kernel
theorem dX2_groupOfInode_19 : decode cX2_groupOfInode 19 = .ok (.ireturn, 1) := by decide +kernel
theorem dX2_inodeAt_0 : decode cX2_inodeAt 0 = .ok (.aload_n 0, 1) := by decide +kernel
theorem dX2_inodeAt_1 : decode cX2_inodeAt 1 = .ok (.getfield 21, 3) := by decide +kernel
theorem dX2_inodeAt_4 : decode cX2_inodeAt 4 = .ok (.iconst 1, 1) := by decide +kernel
theorem dX2_inodeAt_5 : decode cX2_inodeAt 5 = .ok (.if_icmp .ge 5, 3) := by decide +kernel
theorem dX2_inodeAt_8 : decode cX2_inodeAt 8 = .ok (.iconst (-1), 1) := by decide +kernel
theorem dX2_inodeAt_9 : decode cX2_inodeAt 9 = .ok (.ireturn, 1) := by decide +kernel
theorem dX2_inodeAt_10 : decode cX2_inodeAt 10 = .ok (.iconst 1, 1) := by decide +kernel
theorem dX2_inodeAt_11 : decode cX2_inodeAt 11 = .ok (.iload_n 1, 1) := by decide +kernel
theorem dX2_inodeAt_12 : decode cX2_inodeAt 12 = .ok (.iconst 1, 1) := by decide +kernel
theorem dX2_inodeAt_13 : decode cX2_inodeAt 13 = .ok (.isub, 1) := by decide +kernel
theorem dX2_inodeAt_14 : decode cX2_inodeAt 14 = .ok (.aload_n 0, 1) := by decide +kernel
theorem dX2_inodeAt_15 : decode cX2_inodeAt 15 = .ok (.getfield 21, 3) := by decide +kernel
theorem dX2_inodeAt_18 : decode cX2_inodeAt 18 = .ok (.idiv, 1) := by decide +kernel
theorem dX2_inodeAt_19 : decode cX2_inodeAt 19 = .ok (.aload_n 0, 1) := by decide +kernel
theorem dX2_inodeAt_20 : decode cX2_inodeAt 20 = .ok (.getfield 15, 3) := by decide +kernel
theorem dX2_inodeAt_23 : decode cX2_inodeAt 23 = .ok (.imul, 1) := by decide +kernel
theorem dX2_inodeAt_24 : decode cX2_inodeAt 24 = .ok (.iadd, 1) := by decide +kernel
theorem dX2_inodeAt_25 : decode cX2_inodeAt 25 = .ok (.iconst 4, 1) := by decide +kernel
theorem dX2_inodeAt_26 : decode cX2_inodeAt 26 = .ok (.iadd, 1) := by decide +kernel
theorem dX2_inodeAt_27 : decode cX2_inodeAt 27 = .ok (.istore_n 2, 1) := by decide +kernel
theorem dX2_inodeAt_28 : decode cX2_inodeAt 28 = .ok (.iload_n 2, 1) := by decide +kernel
theorem dX2_inodeAt_29 : decode cX2_inodeAt 29 = .ok (.sipush 1024, 3) := by decide +kernel
theorem dX2_inodeAt_32 : decode cX2_inodeAt 32 = .ok (.imul, 1) := by decide +kernel
theorem dX2_inodeAt_33 : decode cX2_inodeAt 33 = .ok (.iload_n 1, 1) := by decide +kernel
theorem dX2_inodeAt_34 : decode cX2_inodeAt 34 = .ok (.iconst 1, 1) := by decide +kernel
theorem dX2_inodeAt_35 : decode cX2_inodeAt 35 = .ok (.isub, 1) := by decide +kernel
theorem dX2_inodeAt_36 : decode cX2_inodeAt 36 = .ok (.aload_n 0, 1) := by decide +kernel
theorem dX2_inodeAt_37 : decode cX2_inodeAt 37 = .ok (.getfield 21, 3) := by decide +kernel
theorem dX2_inodeAt_40 : decode cX2_inodeAt 40 = .ok (.irem, 1) := by decide +kernel
theorem dX2_inodeAt_41 : decode cX2_inodeAt 41 = .ok (.sipush 128, 3) := by decide +kernel
theorem dX2_inodeAt_44 : decode cX2_inodeAt 44 = .ok (.imul, 1) := by decide +kernel
theorem dX2_inodeAt_45 : decode cX2_inodeAt 45 = .ok (.iadd, 1) := by decide +kernel
theorem dX2_inodeAt_46 : decode cX2_inodeAt 46 = .ok (.ireturn, 1) := by decide +kernel
