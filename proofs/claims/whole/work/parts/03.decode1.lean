theorem dX7_dotsHold_136 : decode cX7_dotsHold 136 = .ok (.goto 4, 3) := by decide +kernel
theorem dX7_dotsHold_139 : decode cX7_dotsHold 139 = .ok (.iconst 0, 1) := by decide +kernel
theorem dX7_dotsHold_140 : decode cX7_dotsHold 140 = .ok (.ireturn, 1) := by decide +kernel
theorem dX4_links_0 : decode cX4_links 0 = .ok (.aload_n 0, 1) := by decide +kernel
theorem dX4_links_1 : decode cX4_links 1 = .ok (.getfield 9, 3) := by decide +kernel
theorem dX4_links_4 : decode cX4_links 4 = .ok (.aload_n 0, 1) := by decide +kernel
theorem dX4_links_5 : decode cX4_links 5 = .ok (.getfield 15, 3) := by decide +kernel
theorem dX4_links_8 : decode cX4_links 8 = .ok (.iload_n 1, 1) := by decide +kernel
theorem dX4_links_9 : decode cX4_links 9 = .ok (.invokevirtual 23, 3) := by decide +kernel
theorem dX4_links_12 : decode cX4_links 12 = .ok (.bipush 26, 2) := by decide +kernel
theorem dX4_links_14 : decode cX4_links 14 = .ok (.iadd, 1) := by decide +kernel
theorem dX4_links_15 : decode cX4_links 15 = .ok (.invokevirtual 29, 3) := by decide +kernel
theorem dX4_links_18 : decode cX4_links 18 = .ok (.ireturn, 1) := by decide +kernel
theorem dX7_sameName_0 : decode cX7_sameName 0 = .ok (.aload_n 0, 1) := by decide +kernel
theorem dX7_sameName_1 : decode cX7_sameName 1 = .ok (.getfield 45, 3) := by decide +kernel
theorem dX7_sameName_4 : decode cX7_sameName 4 = .ok (.iload_n 1, 1) := by decide +kernel
theorem dX7_sameName_5 : decode cX7_sameName 5 = .ok (.invokevirtual 200, 3) := by decide +kernel
theorem dX7_sameName_8 : decode cX7_sameName 8 = .ok (.bipush 6, 2) := by decide +kernel
theorem dX7_sameName_10 : decode cX7_sameName 10 = .ok (.iadd, 1) := by decide +kernel
theorem dX7_sameName_11 : decode cX7_sameName 11 = .ok (.istore_n 3, 1) := by decide +kernel
theorem dX7_sameName_12 : decode cX7_sameName 12 = .ok (.aload_n 0, 1) := by decide +kernel
theorem dX7_sameName_13 : decode cX7_sameName 13 = .ok (.getfield 45, 3) := by decide +kernel
theorem dX7_sameName_16 : decode cX7_sameName 16 = .ok (.iload_n 2, 1) := by decide +kernel
theorem dX7_sameName_17 : decode cX7_sameName 17 = .ok (.invokevirtual 200, 3) := by decide +kernel
theorem dX7_sameName_20 : decode cX7_sameName 20 = .ok (.bipush 6, 2) := by decide +kernel
theorem dX7_sameName_22 : decode cX7_sameName 22 = .ok (.iadd, 1) := by decide +kernel
theorem dX7_sameName_23 : decode cX7_sameName 23 = .ok (.istore 4, 2) := by decide +kernel
theorem dX7_sameName_25 : decode cX7_sameName 25 = .ok (.aload_n 0, 1) := by decide +kernel
theorem dX7_sameName_26 : decode cX7_sameName 26 = .ok (.getfield 27, 3) := by decide +kernel
theorem dX7_sameName_29 : decode cX7_sameName 29 = .ok (.iload_n 3, 1) := by decide +kernel
theorem dX7_sameName_30 : decode cX7_sameName 30 = .ok (.invokevirtual 206, 3) := by decide +kernel
theorem dX7_sameName_33 : decode cX7_sameName 33 = .ok (.istore 5, 2) := by decide +kernel
theorem dX7_sameName_35 : decode cX7_sameName 35 = .ok (.iload 5, 2) := by decide +kernel
theorem dX7_sameName_37 : decode cX7_sameName 37 = .ok (.aload_n 0, 1) := by decide +kernel
theorem dX7_sameName_38 : decode cX7_sameName 38 = .ok (.getfield 27, 3) := by decide +kernel
theorem dX7_sameName_41 : decode cX7_sameName 41 = .ok (.iload 4, 2) := by decide +kernel
theorem dX7_sameName_43 : decode cX7_sameName 43 = .ok (.invokevirtual 206, 3) := by decide +kernel
theorem dX7_sameName_46 : decode cX7_sameName 46 = .ok (.if_icmp .eq 5, 3) := by decide +kernel
theorem dX7_sameName_49 : decode cX7_sameName 49 = .ok (.iconst 0, 1) := by decide +kernel
theorem dX7_sameName_50 : decode cX7_sameName 50 = .ok (.ireturn, 1) := by decide +kernel
theorem dX7_sameName_51 : decode cX7_sameName 51 = .ok (.iconst 2, 1) := by decide +kernel
theorem dX7_sameName_52 : decode cX7_sameName 52 = .ok (.istore 6, 2) := by decide +kernel
theorem dX7_sameName_54 : decode cX7_sameName 54 = .ok (.iconst 0, 1) := by decide +kernel
theorem dX7_sameName_55 : decode cX7_sameName 55 = .ok (.istore 7, 2) := by decide +kernel
theorem dX7_sameName_57 : decode cX7_sameName 57 = .ok (.iload 7, 2) := by decide +kernel
theorem dX7_sameName_59 : decode cX7_sameName 59 = .ok (.iload 5, 2) := by decide +kernel
theorem dX7_sameName_61 : decode cX7_sameName 61 = .ok (.if_icmp .ge 43, 3) := by decide +kernel
theorem dX7_sameName_64 : decode cX7_sameName 64 = .ok (.aload_n 0, 1) := by decide +kernel
theorem dX7_sameName_65 : decode cX7_sameName 65 = .ok (.getfield 27, 3) := by decide +kernel
theorem dX7_sameName_68 : decode cX7_sameName 68 = .ok (.iload_n 3, 1) := by decide +kernel
theorem dX7_sameName_69 : decode cX7_sameName 69 = .ok (.iload 6, 2) := by decide +kernel
theorem dX7_sameName_71 : decode cX7_sameName 71 = .ok (.iadd, 1) := by decide +kernel
theorem dX7_sameName_72 : decode cX7_sameName 72 = .ok (.iload 7, 2) := by decide +kernel
theorem dX7_sameName_74 : decode cX7_sameName 74 = .ok (.iadd, 1) := by decide +kernel
theorem dX7_sameName_75 : decode cX7_sameName 75 = .ok (.invokevirtual 206, 3) := by decide +kernel
theorem dX7_sameName_78 : decode cX7_sameName 78 = .ok (.aload_n 0, 1) := by decide +kernel
theorem dX7_sameName_79 : decode cX7_sameName 79 = .ok (.getfield 27, 3) := by decide +kernel
theorem dX7_sameName_82 : decode cX7_sameName 82 = .ok (.iload 4, 2) := by decide +kernel
theorem dX7_sameName_84 : decode cX7_sameName 84 = .ok (.iload 6, 2) := by decide +kernel
theorem dX7_sameName_86 : decode cX7_sameName 86 = .ok (.iadd, 1) := by decide +kernel
theorem dX7_sameName_87 : decode cX7_sameName 87 = .ok (.iload 7, 2) := by decide +kernel
theorem dX7_sameName_89 : decode cX7_sameName 89 = .ok (.iadd, 1) := by decide +kernel
theorem dX7_sameName_90 : decode cX7_sameName 90 = .ok (.invokevirtual 206, 3) := by decide +kernel
theorem dX7_sameName_93 : decode cX7_sameName 93 = .ok (.if_icmp .eq 5, 3) := by decide +kernel
theorem dX7_sameName_96 : decode cX7_sameName 96 = .ok (.iconst 0, 1) := by decide +kernel
theorem dX7_sameName_97 : decode cX7_sameName 97 = .ok (.ireturn, 1) := by decide +kernel
theorem dX7_sameName_98 : decode cX7_sameName 98 = .ok (.iinc 7 1, 3) := by decide +kernel
theorem dX7_sameName_101 : decode cX7_sameName 101 = .ok (.goto (-44), 3) := by decide +kernel
theorem dX7_sameName_104 : decode cX7_sameName 104 = .ok (.iconst 1, 1) := by decide +kernel
theorem dX7_sameName_105 : decode cX7_sameName 105 = .ok (.ireturn, 1) := by decide +kernel
theorem dX7_nameHolds_0 : decode cX7_nameHolds 0 = .ok (.aload_n 0, 1) := by decide +kernel
theorem dX7_nameHolds_1 : decode cX7_nameHolds 1 = .ok (.getfield 45, 3) := by decide +kernel
theorem dX7_nameHolds_4 : decode cX7_nameHolds 4 = .ok (.iload_n 1, 1) := by decide +kernel
theorem dX7_nameHolds_5 : decode cX7_nameHolds 5 = .ok (.invokevirtual 185, 3) := by decide +kernel
theorem dX7_nameHolds_8 : decode cX7_nameHolds 8 = .ok (.istore_n 2, 1) := by decide +kernel
theorem dX7_nameHolds_9 : decode cX7_nameHolds 9 = .ok (.iconst 0, 1) := by decide +kernel
theorem dX7_nameHolds_10 : decode cX7_nameHolds 10 = .ok (.istore_n 3, 1) := by decide +kernel
theorem dX7_nameHolds_11 : decode cX7_nameHolds 11 = .ok (.iload_n 3, 1) := by decide +kernel
theorem dX7_nameHolds_12 : decode cX7_nameHolds 12 = .ok (.iload_n 2, 1) := by decide +kernel
theorem dX7_nameHolds_13 : decode cX7_nameHolds 13 = .ok (.if_icmp .ge 34, 3) := by decide +kernel
theorem dX7_nameHolds_16 : decode cX7_nameHolds 16 = .ok (.aload_n 0, 1) := by decide +kernel
theorem dX7_nameHolds_17 : decode cX7_nameHolds 17 = .ok (.getfield 45, 3) := by decide +kernel
theorem dX7_nameHolds_20 : decode cX7_nameHolds 20 = .ok (.iload_n 1, 1) := by decide +kernel
theorem dX7_nameHolds_21 : decode cX7_nameHolds 21 = .ok (.iload_n 3, 1) := by decide +kernel
theorem dX7_nameHolds_22 : decode cX7_nameHolds 22 = .ok (.invokevirtual 188, 3) := by decide +kernel
theorem dX7_nameHolds_25 : decode cX7_nameHolds 25 = .ok (.istore 4, 2) := by decide +kernel
theorem dX7_nameHolds_27 : decode cX7_nameHolds 27 = .ok (.iload 4, 2) := by decide +kernel
theorem dX7_nameHolds_29 : decode cX7_nameHolds 29 = .ok (.ifCond .eq 10, 3) := by decide +kernel
theorem dX7_nameHolds_32 : decode cX7_nameHolds 32 = .ok (.iload 4, 2) := by decide +kernel
theorem dX7_nameHolds_34 : decode cX7_nameHolds 34 = .ok (.bipush 47, 2) := by decide +kernel
theorem dX7_nameHolds_36 : decode cX7_nameHolds 36 = .ok (.if_icmp .ne 5, 3) := by decide +kernel
theorem dX7_nameHolds_39 : decode cX7_nameHolds 39 = .ok (.iconst 0, 1) := by decide +kernel
theorem dX7_nameHolds_40 : decode cX7_nameHolds 40 = .ok (.ireturn, 1) := by decide +kernel
theorem dX7_nameHolds_41 : decode cX7_nameHolds 41 = .ok (.iinc 3 1, 3) := by decide +kernel
theorem dX7_nameHolds_44 : decode cX7_nameHolds 44 = .ok (.goto (-33), 3) := by decide +kernel
theorem dX7_nameHolds_47 : decode cX7_nameHolds 47 = .ok (.iconst 0, 1) := by decide +kernel
theorem dX7_nameHolds_48 : decode cX7_nameHolds 48 = .ok (.istore_n 3, 1) := by decide +kernel
theorem dX7_nameHolds_49 : decode cX7_nameHolds 49 = .ok (.iload_n 3, 1) := by decide +kernel
theorem dX7_nameHolds_50 : decode cX7_nameHolds 50 = .ok (.iload_n 1, 1) := by decide +kernel
theorem dX7_nameHolds_51 : decode cX7_nameHolds 51 = .ok (.if_icmp .ge 31, 3) := by decide +kernel
theorem dX7_nameHolds_54 : decode cX7_nameHolds 54 = .ok (.aload_n 0, 1) := by decide +kernel
theorem dX7_nameHolds_55 : decode cX7_nameHolds 55 = .ok (.getfield 45, 3) := by decide +kernel
theorem dX7_nameHolds_58 : decode cX7_nameHolds 58 = .ok (.iload_n 3, 1) := by decide +kernel
theorem dX7_nameHolds_59 : decode cX7_nameHolds 59 = .ok (.invokevirtual 179, 3) := by decide +kernel
theorem dX7_nameHolds_62 : decode cX7_nameHolds 62 = .ok (.ifCond .eq 14, 3) := by decide +kernel
theorem dX7_nameHolds_65 : decode cX7_nameHolds 65 = .ok (.aload_n 0, 1) := by decide +kernel
theorem dX7_nameHolds_66 : decode cX7_nameHolds 66 = .ok (.iload_n 3, 1) := by decide +kernel
theorem dX7_nameHolds_67 : decode cX7_nameHolds 67 = .ok (.iload_n 1, 1) := by decide +kernel
theorem dX7_nameHolds_68 : decode cX7_nameHolds 68 = .ok (.invokevirtual 209, 3) := by decide +kernel
theorem dX7_nameHolds_71 : decode cX7_nameHolds 71 = .ok (.ifCond .eq 5, 3) := by decide +kernel
theorem dX7_nameHolds_74 : decode cX7_nameHolds 74 = .ok (.iconst 0, 1) := by decide +kernel
theorem dX7_nameHolds_75 : decode cX7_nameHolds 75 = .ok (.ireturn, 1) := by decide +kernel
theorem dX7_nameHolds_76 : decode cX7_nameHolds 76 = .ok (.iinc 3 1, 3) := by decide +kernel
theorem dX7_nameHolds_79 : decode cX7_nameHolds 79 = .ok (.goto (-30), 3) := by decide +kernel
theorem dX7_nameHolds_82 : decode cX7_nameHolds 82 = .ok (.iload_n 2, 1) := by decide +kernel
theorem dX7_nameHolds_83 : decode cX7_nameHolds 83 = .ok (.ifCond .le 7, 3) := by decide +kernel
theorem dX7_nameHolds_86 : decode cX7_nameHolds 86 = .ok (.iconst 1, 1) := by decide +kernel
theorem dX7_nameHolds_87 : decode cX7_nameHolds 87 = .ok (.goto 4, 3) := by decide +kernel
theorem dX7_nameHolds_90 : decode cX7_nameHolds 90 = .ok (.iconst 0, 1) := by decide +kernel
theorem dX7_nameHolds_91 : decode cX7_nameHolds 91 = .ok (.ireturn, 1) := by decide +kernel
theorem dX7_hold_0 : decode cX7_hold 0 = .ok (.iload_n 1, 1) := by decide +kernel
theorem dX7_hold_1 : decode cX7_hold 1 = .ok (.bipush 11, 2) := by decide +kernel
theorem dX7_hold_3 : decode cX7_hold 3 = .ok (.if_icmp .le 32, 3) := by decide +kernel
theorem dX7_hold_6 : decode cX7_hold 6 = .ok (.iload_n 1, 1) := by decide +kernel
theorem dX7_hold_7 : decode cX7_hold 7 = .ok (.aload_n 0, 1) := by decide +kernel
theorem dX7_hold_8 : decode cX7_hold 8 = .ok (.getfield 30, 3) := by decide +kernel
theorem dX7_hold_11 : decode cX7_hold 11 = .ok (.invokevirtual 116, 3) := by decide +kernel
theorem dX7_hold_14 : decode cX7_hold 14 = .ok (.if_icmp .gt 21, 3) := by decide +kernel
theorem dX7_hold_17 : decode cX7_hold 17 = .ok (.iload_n 1, 1) := by decide +kernel
theorem dX7_hold_18 : decode cX7_hold 18 = .ok (.aload_n 0, 1) := by decide +kernel
theorem dX7_hold_19 : decode cX7_hold 19 = .ok (.getfield 20, 3) := by decide +kernel
theorem dX7_hold_22 : decode cX7_hold 22 = .ok (.arraylength, 1) := by decide +kernel
theorem dX7_hold_23 : decode cX7_hold 23 = .ok (.if_icmp .ge 12, 3) := by decide +kernel
theorem dX7_hold_26 : decode cX7_hold 26 = .ok (.aload_n 0, 1) := by decide +kernel
theorem dX7_hold_27 : decode cX7_hold 27 = .ok (.getfield 20, 3) := by decide +kernel
theorem dX7_hold_30 : decode cX7_hold 30 = .ok (.iload_n 1, 1) := by decide +kernel
theorem dX7_hold_31 : decode cX7_hold 31 = .ok (.iaload, 1) := by decide +kernel
theorem dX7_hold_32 : decode cX7_hold 32 = .ok (.ifCond .eq 5, 3) := by decide +kernel
theorem dX7_hold_35 : decode cX7_hold 35 = .ok (.iconst 0, 1) := by decide +kernel
theorem dX7_hold_36 : decode cX7_hold 36 = .ok (.ireturn, 1) := by decide +kernel
theorem dX7_hold_37 : decode cX7_hold 37 = .ok (.aload_n 0, 1) := by decide +kernel
theorem dX7_hold_38 : decode cX7_hold 38 = .ok (.getfield 20, 3) := by decide +kernel
theorem dX7_hold_41 : decode cX7_hold 41 = .ok (.iload_n 1, 1) := by decide +kernel
theorem dX7_hold_42 : decode cX7_hold 42 = .ok (.iload_n 2, 1) := by decide +kernel
theorem dX7_hold_43 : decode cX7_hold 43 = .ok (.iastore, 1) := by decide +kernel
theorem dX7_hold_44 : decode cX7_hold 44 = .ok (.iconst 1, 1) := by decide +kernel
theorem dX7_hold_45 : decode cX7_hold 45 = .ok (.ireturn, 1) := by decide +kernel
theorem dX7_itemsHold_0 : decode cX7_itemsHold 0 = .ok (.iconst 2, 1) := by decide +kernel
theorem dX7_itemsHold_1 : decode cX7_itemsHold 1 = .ok (.istore_n 2, 1) := by decide +kernel
theorem dX7_itemsHold_2 : decode cX7_itemsHold 2 = .ok (.iconst 2, 1) := by decide +kernel
theorem dX7_itemsHold_3 : decode cX7_itemsHold 3 = .ok (.istore_n 3, 1) := by decide +kernel
theorem dX7_itemsHold_4 : decode cX7_itemsHold 4 = .ok (.iload_n 3, 1) := by decide +kernel
theorem dX7_itemsHold_5 : decode cX7_itemsHold 5 = .ok (.aload_n 0, 1) := by decide +kernel
theorem dX7_itemsHold_6 : decode cX7_itemsHold 6 = .ok (.getfield 45, 3) := by decide +kernel
theorem dX7_itemsHold_9 : decode cX7_itemsHold 9 = .ok (.invokevirtual 173, 3) := by decide +kernel
theorem dX7_itemsHold_12 : decode cX7_itemsHold 12 = .ok (.if_icmp .ge 74, 3) := by decide +kernel
theorem dX7_itemsHold_15 : decode cX7_itemsHold 15 = .ok (.aload_n 0, 1) := by decide +kernel
theorem dX7_itemsHold_16 : decode cX7_itemsHold 16 = .ok (.iload_n 3, 1) := by decide +kernel
theorem dX7_itemsHold_17 : decode cX7_itemsHold 17 = .ok (.invokevirtual 176, 3) := by decide +kernel
theorem dX7_itemsHold_20 : decode cX7_itemsHold 20 = .ok (.ifCond .ne 5, 3) := by decide +kernel
theorem dX7_itemsHold_23 : decode cX7_itemsHold 23 = .ok (.iconst 0, 1) := by decide +kernel
theorem dX7_itemsHold_24 : decode cX7_itemsHold 24 = .ok (.ireturn, 1) := by decide +kernel
theorem dX7_itemsHold_25 : decode cX7_itemsHold 25 = .ok (.aload_n 0, 1) := by decide +kernel
theorem dX7_itemsHold_26 : decode cX7_itemsHold 26 = .ok (.getfield 45, 3) := by decide +kernel
theorem dX7_itemsHold_29 : decode cX7_itemsHold 29 = .ok (.iload_n 3, 1) := by decide +kernel
theorem dX7_itemsHold_30 : decode cX7_itemsHold 30 = .ok (.invokevirtual 179, 3) := by decide +kernel
theorem dX7_itemsHold_33 : decode cX7_itemsHold 33 = .ok (.istore 4, 2) := by decide +kernel
theorem dX7_itemsHold_35 : decode cX7_itemsHold 35 = .ok (.iload 4, 2) := by decide +kernel
theorem dX7_itemsHold_37 : decode cX7_itemsHold 37 = .ok (.ifCond .eq 43, 3) := by decide +kernel
theorem dX7_itemsHold_40 : decode cX7_itemsHold 40 = .ok (.aload_n 0, 1) := by decide +kernel
theorem dX7_itemsHold_41 : decode cX7_itemsHold 41 = .ok (.iload_n 3, 1) := by decide +kernel
theorem dX7_itemsHold_42 : decode cX7_itemsHold 42 = .ok (.invokevirtual 191, 3) := by decide +kernel
theorem dX7_itemsHold_45 : decode cX7_itemsHold 45 = .ok (.ifCond .eq 13, 3) := by decide +kernel
theorem dX7_itemsHold_48 : decode cX7_itemsHold 48 = .ok (.aload_n 0, 1) := by decide +kernel
theorem dX7_itemsHold_49 : decode cX7_itemsHold 49 = .ok (.iload 4, 2) := by decide +kernel
theorem dX7_itemsHold_51 : decode cX7_itemsHold 51 = .ok (.iload_n 1, 1) := by decide +kernel
theorem dX7_itemsHold_52 : decode cX7_itemsHold 52 = .ok (.invokevirtual 194, 3) := by decide +kernel
theorem dX7_itemsHold_55 : decode cX7_itemsHold 55 = .ok (.ifCond .ne 5, 3) := by decide +kernel
theorem dX7_itemsHold_58 : decode cX7_itemsHold 58 = .ok (.iconst 0, 1) := by decide +kernel
theorem dX7_itemsHold_59 : decode cX7_itemsHold 59 = .ok (.ireturn, 1) := by decide +kernel
theorem dX7_itemsHold_60 : decode cX7_itemsHold 60 = .ok (.iload_n 2, 1) := by decide +kernel
theorem dX7_itemsHold_61 : decode cX7_itemsHold 61 = .ok (.aload_n 0, 1) := by decide +kernel
theorem dX7_itemsHold_62 : decode cX7_itemsHold 62 = .ok (.getfield 41, 3) := by decide +kernel
theorem dX7_itemsHold_65 : decode cX7_itemsHold 65 = .ok (.iload 4, 2) := by decide +kernel
theorem dX7_itemsHold_67 : decode cX7_itemsHold 67 = .ok (.invokevirtual 94, 3) := by decide +kernel
theorem dX7_itemsHold_70 : decode cX7_itemsHold 70 = .ok (.ifCond .eq 7, 3) := by decide +kernel
theorem dX7_itemsHold_73 : decode cX7_itemsHold 73 = .ok (.iconst 1, 1) := by decide +kernel
theorem dX7_itemsHold_74 : decode cX7_itemsHold 74 = .ok (.goto 4, 3) := by decide +kernel
theorem dX7_itemsHold_77 : decode cX7_itemsHold 77 = .ok (.iconst 0, 1) := by decide +kernel
theorem dX7_itemsHold_78 : decode cX7_itemsHold 78 = .ok (.iadd, 1) := by decide +kernel
theorem dX7_itemsHold_79 : decode cX7_itemsHold 79 = .ok (.istore_n 2, 1) := by decide +kernel
theorem dX7_itemsHold_80 : decode cX7_itemsHold 80 = .ok (.iinc 3 1, 3) := by decide +kernel
theorem dX7_itemsHold_83 : decode cX7_itemsHold 83 = .ok (.goto (-79), 3) := by decide +kernel
theorem dX7_itemsHold_86 : decode cX7_itemsHold 86 = .ok (.aload_n 0, 1) := by decide +kernel
theorem dX7_itemsHold_87 : decode cX7_itemsHold 87 = .ok (.getfield 41, 3) := by decide +kernel
theorem dX7_itemsHold_90 : decode cX7_itemsHold 90 = .ok (.iload_n 1, 1) := by decide +kernel
theorem dX7_itemsHold_91 : decode cX7_itemsHold 91 = .ok (.invokevirtual 197, 3) := by decide +kernel
theorem dX7_itemsHold_94 : decode cX7_itemsHold 94 = .ok (.iload_n 2, 1) := by decide +kernel
theorem dX7_itemsHold_95 : decode cX7_itemsHold 95 = .ok (.if_icmp .ne 7, 3) := by decide +kernel
theorem dX7_itemsHold_98 : decode cX7_itemsHold 98 = .ok (.iconst 1, 1) := by decide +kernel
theorem dX7_itemsHold_99 : decode cX7_itemsHold 99 = .ok (.goto 4, 3) := by decide +kernel
theorem dX7_itemsHold_102 : decode cX7_itemsHold 102 = .ok (.iconst 0, 1) := by decide +kernel
theorem dX7_itemsHold_103 : decode cX7_itemsHold 103 = .ok (.ireturn, 1) := by decide +kernel
theorem dX7_directoriesHold_0 : decode cX7_directoriesHold 0 = .ok (.iconst 2, 1) := by decide +kernel
theorem dX7_directoriesHold_1 : decode cX7_directoriesHold 1 = .ok (.istore_n 1, 1) := by decide +kernel
theorem dX7_directoriesHold_2 : decode cX7_directoriesHold 2 = .ok (.iload_n 1, 1) := by decide +kernel
theorem dX7_directoriesHold_3 : decode cX7_directoriesHold 3 = .ok (.aload_n 0, 1) := by decide +kernel
theorem dX7_directoriesHold_4 : decode cX7_directoriesHold 4 = .ok (.getfield 30, 3) := by decide +kernel
theorem dX7_directoriesHold_7 : decode cX7_directoriesHold 7 = .ok (.invokevirtual 116, 3) := by decide +kernel
theorem dX7_directoriesHold_10 : decode cX7_directoriesHold 10 = .ok (.if_icmp .gt 83, 3) := by decide +kernel
theorem dX7_directoriesHold_13 : decode cX7_directoriesHold 13 = .ok (.aload_n 0, 1) := by decide +kernel
theorem dX7_directoriesHold_14 : decode cX7_directoriesHold 14 = .ok (.getfield 41, 3) := by decide +kernel
theorem dX7_directoriesHold_17 : decode cX7_directoriesHold 17 = .ok (.iload_n 1, 1) := by decide +kernel
theorem dX7_directoriesHold_18 : decode cX7_directoriesHold 18 = .ok (.invokevirtual 94, 3) := by decide +kernel
theorem dX7_directoriesHold_21 : decode cX7_directoriesHold 21 = .ok (.ifCond .eq 66, 3) := by decide +kernel
theorem dX7_directoriesHold_24 : decode cX7_directoriesHold 24 = .ok (.aload_n 0, 1) := by decide +kernel
theorem dX7_directoriesHold_25 : decode cX7_directoriesHold 25 = .ok (.getfield 45, 3) := by decide +kernel
theorem dX7_directoriesHold_28 : decode cX7_directoriesHold 28 = .ok (.iload_n 1, 1) := by decide +kernel
theorem dX7_directoriesHold_29 : decode cX7_directoriesHold 29 = .ok (.invokevirtual 156, 3) := by decide +kernel
theorem dX7_directoriesHold_32 : decode cX7_directoriesHold 32 = .ok (.aload_n 0, 1) := by decide +kernel
theorem dX7_directoriesHold_33 : decode cX7_directoriesHold 33 = .ok (.getfield 41, 3) := by decide +kernel
theorem dX7_directoriesHold_36 : decode cX7_directoriesHold 36 = .ok (.iload_n 1, 1) := by decide +kernel
theorem dX7_directoriesHold_37 : decode cX7_directoriesHold 37 = .ok (.invokevirtual 161, 3) := by decide +kernel
theorem dX7_directoriesHold_40 : decode cX7_directoriesHold 40 = .ok (.sipush 1024, 3) := by decide +kernel
theorem dX7_directoriesHold_43 : decode cX7_directoriesHold 43 = .ok (.irem, 1) := by decide +kernel
theorem dX7_directoriesHold_44 : decode cX7_directoriesHold 44 = .ok (.ifCond .ne 19, 3) := by decide +kernel
theorem dX7_directoriesHold_47 : decode cX7_directoriesHold 47 = .ok (.aload_n 0, 1) := by decide +kernel
theorem dX7_directoriesHold_48 : decode cX7_directoriesHold 48 = .ok (.iload_n 1, 1) := by decide +kernel
theorem dX7_directoriesHold_49 : decode cX7_directoriesHold 49 = .ok (.invokevirtual 164, 3) := by decide +kernel
theorem dX7_directoriesHold_52 : decode cX7_directoriesHold 52 = .ok (.ifCond .eq 11, 3) := by decide +kernel
theorem dX7_directoriesHold_55 : decode cX7_directoriesHold 55 = .ok (.aload_n 0, 1) := by decide +kernel
theorem dX7_directoriesHold_56 : decode cX7_directoriesHold 56 = .ok (.iload_n 1, 1) := by decide +kernel
theorem dX7_directoriesHold_57 : decode cX7_directoriesHold 57 = .ok (.invokevirtual 167, 3) := by decide +kernel
theorem dX7_directoriesHold_60 : decode cX7_directoriesHold 60 = .ok (.ifCond .ne 5, 3) := by decide +kernel
theorem dX7_directoriesHold_63 : decode cX7_directoriesHold 63 = .ok (.iconst 0, 1) := by decide +kernel
theorem dX7_directoriesHold_64 : decode cX7_directoriesHold 64 = .ok (.ireturn, 1) := by decide +kernel
theorem dX7_directoriesHold_65 : decode cX7_directoriesHold 65 = .ok (.iload_n 1, 1) := by decide +kernel
theorem dX7_directoriesHold_66 : decode cX7_directoriesHold 66 = .ok (.aload_n 0, 1) := by decide +kernel
theorem dX7_directoriesHold_67 : decode cX7_directoriesHold 67 = .ok (.getfield 24, 3) := by decide +kernel
theorem dX7_directoriesHold_70 : decode cX7_directoriesHold 70 = .ok (.arraylength, 1) := by decide +kernel
theorem dX7_directoriesHold_71 : decode cX7_directoriesHold 71 = .ok (.if_icmp .ge 16, 3) := by decide +kernel
theorem dX7_directoriesHold_74 : decode cX7_directoriesHold 74 = .ok (.aload_n 0, 1) := by decide +kernel
theorem dX7_directoriesHold_75 : decode cX7_directoriesHold 75 = .ok (.getfield 24, 3) := by decide +kernel
theorem dX7_directoriesHold_78 : decode cX7_directoriesHold 78 = .ok (.iload_n 1, 1) := by decide +kernel
theorem dX7_directoriesHold_79 : decode cX7_directoriesHold 79 = .ok (.aload_n 0, 1) := by decide +kernel
theorem dX7_directoriesHold_80 : decode cX7_directoriesHold 80 = .ok (.getfield 45, 3) := by decide +kernel
theorem dX7_directoriesHold_83 : decode cX7_directoriesHold 83 = .ok (.invokevirtual 170, 3) := by decide +kernel
theorem dX7_directoriesHold_86 : decode cX7_directoriesHold 86 = .ok (.iastore, 1) := by decide +kernel
theorem dX7_directoriesHold_87 : decode cX7_directoriesHold 87 = .ok (.iinc 1 1, 3) := by decide +kernel
theorem dX7_directoriesHold_90 : decode cX7_directoriesHold 90 = .ok (.goto (-88), 3) := by decide +kernel
theorem dX7_directoriesHold_93 : decode cX7_directoriesHold 93 = .ok (.iconst 1, 1) := by decide +kernel
theorem dX7_directoriesHold_94 : decode cX7_directoriesHold 94 = .ok (.ireturn, 1) := by decide +kernel
theorem dX7_parentOf_0 : decode cX7_parentOf 0 = .ok (.iload_n 1, 1) := by decide +kernel
theorem dX7_parentOf_1 : decode cX7_parentOf 1 = .ok (.ifCond .lt 21, 3) := by decide +kernel
theorem dX7_parentOf_4 : decode cX7_parentOf 4 = .ok (.iload_n 1, 1) := by decide +kernel
theorem dX7_parentOf_5 : decode cX7_parentOf 5 = .ok (.aload_n 0, 1) := by decide +kernel
theorem dX7_parentOf_6 : decode cX7_parentOf 6 = .ok (.getfield 24, 3) := by decide +kernel
theorem dX7_parentOf_9 : decode cX7_parentOf 9 = .ok (.arraylength, 1) := by decide +kernel
theorem dX7_parentOf_10 : decode cX7_parentOf 10 = .ok (.if_icmp .ge 12, 3) := by decide +kernel
theorem dX7_parentOf_13 : decode cX7_parentOf 13 = .ok (.aload_n 0, 1) := by decide +kernel
theorem dX7_parentOf_14 : decode cX7_parentOf 14 = .ok (.getfield 24, 3) := by decide +kernel
theorem dX7_parentOf_17 : decode cX7_parentOf 17 = .ok (.iload_n 1, 1) := by decide +kernel
theorem dX7_parentOf_18 : decode cX7_parentOf 18 = .ok (.iaload, 1) := by decide +kernel
theorem dX7_parentOf_19 : decode cX7_parentOf 19 = .ok (.goto 4, 3) := by decide +kernel
theorem dX7_parentOf_22 : decode cX7_parentOf 22 = .ok (.iconst 0, 1) := by decide +kernel
theorem dX7_parentOf_23 : decode cX7_parentOf 23 = .ok (.ireturn, 1) := by decide +kernel
theorem dX7_holderOf_0 : decode cX7_holderOf 0 = .ok (.iload_n 1, 1) := by decide +kernel
theorem dX7_holderOf_1 : decode cX7_holderOf 1 = .ok (.ifCond .lt 21, 3) := by decide +kernel
theorem dX7_holderOf_4 : decode cX7_holderOf 4 = .ok (.iload_n 1, 1) := by decide +kernel
theorem dX7_holderOf_5 : decode cX7_holderOf 5 = .ok (.aload_n 0, 1) := by decide +kernel
theorem dX7_holderOf_6 : decode cX7_holderOf 6 = .ok (.getfield 20, 3) := by decide +kernel
theorem dX7_holderOf_9 : decode cX7_holderOf 9 = .ok (.arraylength, 1) := by decide +kernel
theorem dX7_holderOf_10 : decode cX7_holderOf 10 = .ok (.if_icmp .ge 12, 3) := by decide +kernel
theorem dX7_holderOf_13 : decode cX7_holderOf 13 = .ok (.aload_n 0, 1) := by decide +kernel
theorem dX7_holderOf_14 : decode cX7_holderOf 14 = .ok (.getfield 20, 3) := by decide +kernel
theorem dX7_holderOf_17 : decode cX7_holderOf 17 = .ok (.iload_n 1, 1) := by decide +kernel
theorem dX7_holderOf_18 : decode cX7_holderOf 18 = .ok (.iaload, 1) := by decide +kernel
theorem dX7_holderOf_19 : decode cX7_holderOf 19 = .ok (.goto 4, 3) := by decide +kernel
theorem dX7_holderOf_22 : decode cX7_holderOf 22 = .ok (.iconst 0, 1) := by decide +kernel
theorem dX7_holderOf_23 : decode cX7_holderOf 23 = .ok (.ireturn, 1) := by decide +kernel
theorem dX7_parentHolds_0 : decode cX7_parentHolds 0 = .ok (.aload_n 0, 1) := by decide +kernel
theorem dX7_parentHolds_1 : decode cX7_parentHolds 1 = .ok (.iload_n 1, 1) := by decide +kernel
theorem dX7_parentHolds_2 : decode cX7_parentHolds 2 = .ok (.invokevirtual 218, 3) := by decide +kernel
theorem dX7_parentHolds_5 : decode cX7_parentHolds 5 = .ok (.aload_n 0, 1) := by decide +kernel
theorem dX7_parentHolds_6 : decode cX7_parentHolds 6 = .ok (.iload_n 1, 1) := by decide +kernel
theorem dX7_parentHolds_7 : decode cX7_parentHolds 7 = .ok (.invokevirtual 212, 3) := by decide +kernel
theorem dX7_parentHolds_10 : decode cX7_parentHolds 10 = .ok (.if_icmp .eq 5, 3) := by decide +kernel
theorem dX7_parentHolds_13 : decode cX7_parentHolds 13 = .ok (.iconst 0, 1) := by decide +kernel
theorem dX7_parentHolds_14 : decode cX7_parentHolds 14 = .ok (.ireturn, 1) := by decide +kernel
theorem dX7_parentHolds_15 : decode cX7_parentHolds 15 = .ok (.iload_n 1, 1) := by decide +kernel
theorem dX7_parentHolds_16 : decode cX7_parentHolds 16 = .ok (.istore_n 2, 1) := by decide +kernel
theorem dX7_parentHolds_17 : decode cX7_parentHolds 17 = .ok (.iconst 0, 1) := by decide +kernel
theorem dX7_parentHolds_18 : decode cX7_parentHolds 18 = .ok (.istore_n 3, 1) := by decide +kernel
theorem dX7_parentHolds_19 : decode cX7_parentHolds 19 = .ok (.iload_n 3, 1) := by decide +kernel
theorem dX7_parentHolds_20 : decode cX7_parentHolds 20 = .ok (.sipush 2064, 3) := by decide +kernel
theorem dX7_parentHolds_23 : decode cX7_parentHolds 23 = .ok (.if_icmp .ge 24, 3) := by decide +kernel
theorem dX7_parentHolds_26 : decode cX7_parentHolds 26 = .ok (.iload_n 2, 1) := by decide +kernel
theorem dX7_parentHolds_27 : decode cX7_parentHolds 27 = .ok (.iconst 2, 1) := by decide +kernel
theorem dX7_parentHolds_28 : decode cX7_parentHolds 28 = .ok (.if_icmp .eq 19, 3) := by decide +kernel
theorem dX7_parentHolds_31 : decode cX7_parentHolds 31 = .ok (.iload_n 2, 1) := by decide +kernel
theorem dX7_parentHolds_32 : decode cX7_parentHolds 32 = .ok (.ifCond .eq 15, 3) := by decide +kernel
theorem dX7_parentHolds_35 : decode cX7_parentHolds 35 = .ok (.aload_n 0, 1) := by decide +kernel
theorem dX7_parentHolds_36 : decode cX7_parentHolds 36 = .ok (.iload_n 2, 1) := by decide +kernel
theorem dX7_parentHolds_37 : decode cX7_parentHolds 37 = .ok (.invokevirtual 212, 3) := by decide +kernel
theorem dX7_parentHolds_40 : decode cX7_parentHolds 40 = .ok (.istore_n 2, 1) := by decide +kernel
theorem dX7_parentHolds_41 : decode cX7_parentHolds 41 = .ok (.iinc 3 1, 3) := by decide +kernel
theorem dX7_parentHolds_44 : decode cX7_parentHolds 44 = .ok (.goto (-25), 3) := by decide +kernel
theorem dX7_parentHolds_47 : decode cX7_parentHolds 47 = .ok (.iload_n 2, 1) := by decide +kernel
theorem dX7_parentHolds_48 : decode cX7_parentHolds 48 = .ok (.iconst 2, 1) := by decide +kernel
theorem dX7_parentHolds_49 : decode cX7_parentHolds 49 = .ok (.if_icmp .ne 7, 3) := by decide +kernel
theorem dX7_parentHolds_52 : decode cX7_parentHolds 52 = .ok (.iconst 1, 1) := by decide +kernel
theorem dX7_parentHolds_53 : decode cX7_parentHolds 53 = .ok (.goto 4, 3) := by decide +kernel
theorem dX7_parentHolds_56 : decode cX7_parentHolds 56 = .ok (.iconst 0, 1) := by decide +kernel
theorem dX7_parentHolds_57 : decode cX7_parentHolds 57 = .ok (.ireturn, 1) := by decide +kernel
theorem dX7_treeHolds_0 : decode cX7_treeHolds 0 = .ok (.bipush 12, 2) := by decide +kernel
theorem dX7_treeHolds_2 : decode cX7_treeHolds 2 = .ok (.istore_n 1, 1) := by decide +kernel
theorem dX7_treeHolds_3 : decode cX7_treeHolds 3 = .ok (.iload_n 1, 1) := by decide +kernel
theorem dX7_treeHolds_4 : decode cX7_treeHolds 4 = .ok (.aload_n 0, 1) := by decide +kernel
theorem dX7_treeHolds_5 : decode cX7_treeHolds 5 = .ok (.getfield 30, 3) := by decide +kernel
theorem dX7_treeHolds_8 : decode cX7_treeHolds 8 = .ok (.invokevirtual 116, 3) := by decide +kernel
theorem dX7_treeHolds_11 : decode cX7_treeHolds 11 = .ok (.if_icmp .gt 87, 3) := by decide +kernel
theorem dX7_treeHolds_14 : decode cX7_treeHolds 14 = .ok (.aload_n 0, 1) := by decide +kernel
theorem dX7_treeHolds_15 : decode cX7_treeHolds 15 = .ok (.iload_n 1, 1) := by decide +kernel
theorem dX7_treeHolds_16 : decode cX7_treeHolds 16 = .ok (.invokevirtual 212, 3) := by decide +kernel
theorem dX7_treeHolds_19 : decode cX7_treeHolds 19 = .ok (.ifCond .eq 7, 3) := by decide +kernel
theorem dX7_treeHolds_22 : decode cX7_treeHolds 22 = .ok (.iconst 1, 1) := by decide +kernel
theorem dX7_treeHolds_23 : decode cX7_treeHolds 23 = .ok (.goto 4, 3) := by decide +kernel
theorem dX7_treeHolds_26 : decode cX7_treeHolds 26 = .ok (.iconst 0, 1) := by decide +kernel
theorem dX7_treeHolds_27 : decode cX7_treeHolds 27 = .ok (.istore_n 2, 1) := by decide +kernel
theorem dX7_treeHolds_28 : decode cX7_treeHolds 28 = .ok (.iload_n 2, 1) := by decide +kernel
theorem dX7_treeHolds_29 : decode cX7_treeHolds 29 = .ok (.aload_n 0, 1) := by decide +kernel
theorem dX7_treeHolds_30 : decode cX7_treeHolds 30 = .ok (.getfield 38, 3) := by decide +kernel
theorem dX7_treeHolds_33 : decode cX7_treeHolds 33 = .ok (.iload_n 1, 1) := by decide +kernel
theorem dX7_treeHolds_34 : decode cX7_treeHolds 34 = .ok (.invokevirtual 121, 3) := by decide +kernel
theorem dX7_treeHolds_37 : decode cX7_treeHolds 37 = .ok (.if_icmp .eq 5, 3) := by decide +kernel
theorem dX7_treeHolds_40 : decode cX7_treeHolds 40 = .ok (.iconst 0, 1) := by decide +kernel
theorem dX7_treeHolds_41 : decode cX7_treeHolds 41 = .ok (.ireturn, 1) := by decide +kernel
theorem dX7_treeHolds_42 : decode cX7_treeHolds 42 = .ok (.iload_n 2, 1) := by decide +kernel
theorem dX7_treeHolds_43 : decode cX7_treeHolds 43 = .ok (.ifCond .eq 28, 3) := by decide +kernel
theorem dX7_treeHolds_46 : decode cX7_treeHolds 46 = .ok (.aload_n 0, 1) := by decide +kernel
theorem dX7_treeHolds_47 : decode cX7_treeHolds 47 = .ok (.getfield 41, 3) := by decide +kernel
theorem dX7_treeHolds_50 : decode cX7_treeHolds 50 = .ok (.iload_n 1, 1) := by decide +kernel
theorem dX7_treeHolds_51 : decode cX7_treeHolds 51 = .ok (.invokevirtual 94, 3) := by decide +kernel
theorem dX7_treeHolds_54 : decode cX7_treeHolds 54 = .ok (.ifCond .ne 17, 3) := by decide +kernel
theorem dX7_treeHolds_57 : decode cX7_treeHolds 57 = .ok (.aload_n 0, 1) := by decide +kernel
theorem dX7_treeHolds_58 : decode cX7_treeHolds 58 = .ok (.getfield 41, 3) := by decide +kernel
theorem dX7_treeHolds_61 : decode cX7_treeHolds 61 = .ok (.iload_n 1, 1) := by decide +kernel
theorem dX7_treeHolds_62 : decode cX7_treeHolds 62 = .ok (.invokevirtual 197, 3) := by decide +kernel
theorem dX7_treeHolds_65 : decode cX7_treeHolds 65 = .ok (.iconst 1, 1) := by decide +kernel
theorem dX7_treeHolds_66 : decode cX7_treeHolds 66 = .ok (.if_icmp .eq 5, 3) := by decide +kernel
theorem dX7_treeHolds_69 : decode cX7_treeHolds 69 = .ok (.iconst 0, 1) := by decide +kernel
theorem dX7_treeHolds_70 : decode cX7_treeHolds 70 = .ok (.ireturn, 1) := by decide +kernel
theorem dX7_treeHolds_71 : decode cX7_treeHolds 71 = .ok (.aload_n 0, 1) := by decide +kernel
theorem dX7_treeHolds_72 : decode cX7_treeHolds 72 = .ok (.getfield 41, 3) := by decide +kernel
theorem dX7_treeHolds_75 : decode cX7_treeHolds 75 = .ok (.iload_n 1, 1) := by decide +kernel
theorem dX7_treeHolds_76 : decode cX7_treeHolds 76 = .ok (.invokevirtual 94, 3) := by decide +kernel
theorem dX7_treeHolds_79 : decode cX7_treeHolds 79 = .ok (.ifCond .eq 13, 3) := by decide +kernel
theorem dX7_treeHolds_82 : decode cX7_treeHolds 82 = .ok (.aload_n 0, 1) := by decide +kernel
theorem dX7_treeHolds_83 : decode cX7_treeHolds 83 = .ok (.iload_n 1, 1) := by decide +kernel
theorem dX7_treeHolds_84 : decode cX7_treeHolds 84 = .ok (.invokevirtual 215, 3) := by decide +kernel
theorem dX7_treeHolds_87 : decode cX7_treeHolds 87 = .ok (.ifCond .ne 5, 3) := by decide +kernel
theorem dX7_treeHolds_90 : decode cX7_treeHolds 90 = .ok (.iconst 0, 1) := by decide +kernel
theorem dX7_treeHolds_91 : decode cX7_treeHolds 91 = .ok (.ireturn, 1) := by decide +kernel
theorem dX7_treeHolds_92 : decode cX7_treeHolds 92 = .ok (.iinc 1 1, 3) := by decide +kernel
theorem dX7_treeHolds_95 : decode cX7_treeHolds 95 = .ok (.goto (-92), 3) := by decide +kernel
theorem dX7_treeHolds_98 : decode cX7_treeHolds 98 = .ok (.aload_n 0, 1) := by decide +kernel
theorem dX7_treeHolds_99 : decode cX7_treeHolds 99 = .ok (.getfield 41, 3) := by decide +kernel
theorem dX7_treeHolds_102 : decode cX7_treeHolds 102 = .ok (.iconst 2, 1) := by decide +kernel
theorem dX7_treeHolds_103 : decode cX7_treeHolds 103 = .ok (.invokevirtual 94, 3) := by decide +kernel
theorem dX7_treeHolds_106 : decode cX7_treeHolds 106 = .ok (.ifCond .eq 16, 3) := by decide +kernel
theorem dX7_treeHolds_109 : decode cX7_treeHolds 109 = .ok (.aload_n 0, 1) := by decide +kernel
theorem dX7_treeHolds_110 : decode cX7_treeHolds 110 = .ok (.iconst 2, 1) := by decide +kernel
theorem dX7_treeHolds_111 : decode cX7_treeHolds 111 = .ok (.invokevirtual 218, 3) := by decide +kernel
theorem dX7_treeHolds_114 : decode cX7_treeHolds 114 = .ok (.iconst 2, 1) := by decide +kernel
theorem dX7_treeHolds_115 : decode cX7_treeHolds 115 = .ok (.if_icmp .ne 7, 3) := by decide +kernel
theorem dX7_treeHolds_118 : decode cX7_treeHolds 118 = .ok (.iconst 1, 1) := by decide +kernel
theorem dX7_treeHolds_119 : decode cX7_treeHolds 119 = .ok (.goto 4, 3) := by decide +kernel
theorem dX7_treeHolds_122 : decode cX7_treeHolds 122 = .ok (.iconst 0, 1) := by decide +kernel
theorem dX7_treeHolds_123 : decode cX7_treeHolds 123 = .ok (.ireturn, 1) := by decide +kernel
theorem dX3_tailHolds_0 : decode cX3_tailHolds 0 = .ok (.aload_n 0, 1) := by decide +kernel
theorem dX3_tailHolds_1 : decode cX3_tailHolds 1 = .ok (.iload_n 1, 1) := by decide +kernel
theorem dX3_tailHolds_2 : decode cX3_tailHolds 2 = .ok (.invokevirtual 61, 3) := by decide +kernel
theorem dX3_tailHolds_5 : decode cX3_tailHolds 5 = .ok (.istore_n 2, 1) := by decide +kernel
theorem dX3_tailHolds_6 : decode cX3_tailHolds 6 = .ok (.aload_n 0, 1) := by decide +kernel
theorem dX3_tailHolds_7 : decode cX3_tailHolds 7 = .ok (.getfield 15, 3) := by decide +kernel
theorem dX3_tailHolds_10 : decode cX3_tailHolds 10 = .ok (.iload_n 1, 1) := by decide +kernel
theorem dX3_tailHolds_11 : decode cX3_tailHolds 11 = .ok (.aload_n 0, 1) := by decide +kernel
theorem dX3_tailHolds_12 : decode cX3_tailHolds 12 = .ok (.getfield 19, 3) := by decide +kernel
theorem dX3_tailHolds_15 : decode cX3_tailHolds 15 = .ok (.invokevirtual 51, 3) := by decide +kernel
theorem dX3_tailHolds_18 : decode cX3_tailHolds 18 = .ok (.istore_n 3, 1) := by decide +kernel
theorem dX3_tailHolds_19 : decode cX3_tailHolds 19 = .ok (.iload_n 2, 1) := by decide +kernel
theorem dX3_tailHolds_20 : decode cX3_tailHolds 20 = .ok (.bipush 8, 2) := by decide +kernel
theorem dX3_tailHolds_22 : decode cX3_tailHolds 22 = .ok (.idiv, 1) := by decide +kernel
theorem dX3_tailHolds_23 : decode cX3_tailHolds 23 = .ok (.istore 4, 2) := by decide +kernel
theorem dX3_tailHolds_25 : decode cX3_tailHolds 25 = .ok (.iload 4, 2) := by decide +kernel
theorem dX3_tailHolds_27 : decode cX3_tailHolds 27 = .ok (.sipush 1024, 3) := by decide +kernel
theorem dX3_tailHolds_30 : decode cX3_tailHolds 30 = .ok (.if_icmp .ge 59, 3) := by decide +kernel
theorem dX3_tailHolds_33 : decode cX3_tailHolds 33 = .ok (.iload 4, 2) := by decide +kernel
theorem dX3_tailHolds_35 : decode cX3_tailHolds 35 = .ok (.iload_n 2, 1) := by decide +kernel
theorem dX3_tailHolds_36 : decode cX3_tailHolds 36 = .ok (.bipush 8, 2) := by decide +kernel
theorem dX3_tailHolds_38 : decode cX3_tailHolds 38 = .ok (.idiv, 1) := by decide +kernel
theorem dX3_tailHolds_39 : decode cX3_tailHolds 39 = .ok (.if_icmp .ne 18, 3) := by decide +kernel
theorem dX3_tailHolds_42 : decode cX3_tailHolds 42 = .ok (.sipush 255, 3) := by decide +kernel
theorem dX3_tailHolds_45 : decode cX3_tailHolds 45 = .ok (.iload_n 2, 1) := by decide +kernel
theorem dX3_tailHolds_46 : decode cX3_tailHolds 46 = .ok (.bipush 8, 2) := by decide +kernel
theorem dX3_tailHolds_48 : decode cX3_tailHolds 48 = .ok (.irem, 1) := by decide +kernel
theorem dX3_tailHolds_49 : decode cX3_tailHolds 49 = .ok (.ishl, 1) := by decide +kernel
theorem dX3_tailHolds_50 : decode cX3_tailHolds 50 = .ok (.sipush 255, 3) := by decide +kernel
theorem dX3_tailHolds_53 : decode cX3_tailHolds 53 = .ok (.iand, 1) := by decide +kernel
theorem dX3_tailHolds_54 : decode cX3_tailHolds 54 = .ok (.goto 6, 3) := by decide +kernel
theorem dX3_tailHolds_57 : decode cX3_tailHolds 57 = .ok (.sipush 255, 3) := by decide +kernel
theorem dX3_tailHolds_60 : decode cX3_tailHolds 60 = .ok (.istore 5, 2) := by decide +kernel
theorem dX3_tailHolds_62 : decode cX3_tailHolds 62 = .ok (.aload_n 0, 1) := by decide +kernel
theorem dX3_tailHolds_63 : decode cX3_tailHolds 63 = .ok (.getfield 9, 3) := by decide +kernel
theorem dX3_tailHolds_66 : decode cX3_tailHolds 66 = .ok (.iload_n 3, 1) := by decide +kernel
theorem dX3_tailHolds_67 : decode cX3_tailHolds 67 = .ok (.iload 4, 2) := by decide +kernel
theorem dX3_tailHolds_69 : decode cX3_tailHolds 69 = .ok (.iadd, 1) := by decide +kernel
theorem dX3_tailHolds_70 : decode cX3_tailHolds 70 = .ok (.invokevirtual 64, 3) := by decide +kernel
theorem dX3_tailHolds_73 : decode cX3_tailHolds 73 = .ok (.iload 5, 2) := by decide +kernel
theorem dX3_tailHolds_75 : decode cX3_tailHolds 75 = .ok (.iand, 1) := by decide +kernel
theorem dX3_tailHolds_76 : decode cX3_tailHolds 76 = .ok (.iload 5, 2) := by decide +kernel
theorem dX3_tailHolds_78 : decode cX3_tailHolds 78 = .ok (.if_icmp .eq 5, 3) := by decide +kernel
theorem dX3_tailHolds_81 : decode cX3_tailHolds 81 = .ok (.iconst 0, 1) := by decide +kernel
theorem dX3_tailHolds_82 : decode cX3_tailHolds 82 = .ok (.ireturn, 1) := by decide +kernel
theorem dX3_tailHolds_83 : decode cX3_tailHolds 83 = .ok (.iinc 4 1, 3) := by decide +kernel
theorem dX3_tailHolds_86 : decode cX3_tailHolds 86 = .ok (.goto (-61), 3) := by decide +kernel
theorem dX3_tailHolds_89 : decode cX3_tailHolds 89 = .ok (.iconst 1, 1) := by decide +kernel
theorem dX3_tailHolds_90 : decode cX3_tailHolds 90 = .ok (.ireturn, 1) := by decide +kernel
theorem dX7_mapsHold_0 : decode cX7_mapsHold 0 = .ok (.iconst 1, 1) := by decide +kernel
theorem dX7_mapsHold_1 : decode cX7_mapsHold 1 = .ok (.istore_n 1, 1) := by decide +kernel
theorem dX7_mapsHold_2 : decode cX7_mapsHold 2 = .ok (.iload_n 1, 1) := by decide +kernel
theorem dX7_mapsHold_3 : decode cX7_mapsHold 3 = .ok (.aload_n 0, 1) := by decide +kernel
theorem dX7_mapsHold_4 : decode cX7_mapsHold 4 = .ok (.getfield 65, 3) := by decide +kernel
theorem dX7_mapsHold_7 : decode cX7_mapsHold 7 = .ok (.arraylength, 1) := by decide +kernel
theorem dX7_mapsHold_8 : decode cX7_mapsHold 8 = .ok (.if_icmp .ge 36, 3) := by decide +kernel
theorem dX7_mapsHold_11 : decode cX7_mapsHold 11 = .ok (.aload_n 0, 1) := by decide +kernel
theorem dX7_mapsHold_12 : decode cX7_mapsHold 12 = .ok (.getfield 34, 3) := by decide +kernel
theorem dX7_mapsHold_15 : decode cX7_mapsHold 15 = .ok (.iload_n 1, 1) := by decide +kernel
theorem dX7_mapsHold_16 : decode cX7_mapsHold 16 = .ok (.invokevirtual 121, 3) := by decide +kernel
theorem dX7_mapsHold_19 : decode cX7_mapsHold 19 = .ok (.aload_n 0, 1) := by decide +kernel
theorem dX7_mapsHold_20 : decode cX7_mapsHold 20 = .ok (.getfield 65, 3) := by decide +kernel
theorem dX7_mapsHold_23 : decode cX7_mapsHold 23 = .ok (.iload_n 1, 1) := by decide +kernel
theorem dX7_mapsHold_24 : decode cX7_mapsHold 24 = .ok (.baload, 1) := by decide +kernel
theorem dX7_mapsHold_25 : decode cX7_mapsHold 25 = .ok (.ifCond .eq 7, 3) := by decide +kernel
theorem dX7_mapsHold_28 : decode cX7_mapsHold 28 = .ok (.iconst 1, 1) := by decide +kernel
theorem dX7_mapsHold_29 : decode cX7_mapsHold 29 = .ok (.goto 4, 3) := by decide +kernel
theorem dX7_mapsHold_32 : decode cX7_mapsHold 32 = .ok (.iconst 0, 1) := by decide +kernel
theorem dX7_mapsHold_33 : decode cX7_mapsHold 33 = .ok (.if_icmp .eq 5, 3) := by decide +kernel
theorem dX7_mapsHold_36 : decode cX7_mapsHold 36 = .ok (.iconst 0, 1) := by decide +kernel
theorem dX7_mapsHold_37 : decode cX7_mapsHold 37 = .ok (.ireturn, 1) := by decide +kernel
theorem dX7_mapsHold_38 : decode cX7_mapsHold 38 = .ok (.iinc 1 1, 3) := by decide +kernel
theorem dX7_mapsHold_41 : decode cX7_mapsHold 41 = .ok (.goto (-39), 3) := by decide +kernel
theorem dX7_mapsHold_44 : decode cX7_mapsHold 44 = .ok (.iconst 1, 1) := by decide +kernel
theorem dX7_mapsHold_45 : decode cX7_mapsHold 45 = .ok (.istore_n 1, 1) := by decide +kernel
theorem dX7_mapsHold_46 : decode cX7_mapsHold 46 = .ok (.iload_n 1, 1) := by decide +kernel
theorem dX7_mapsHold_47 : decode cX7_mapsHold 47 = .ok (.bipush 11, 2) := by decide +kernel
theorem dX7_mapsHold_49 : decode cX7_mapsHold 49 = .ok (.if_icmp .gt 22, 3) := by decide +kernel
theorem dX7_mapsHold_52 : decode cX7_mapsHold 52 = .ok (.aload_n 0, 1) := by decide +kernel
theorem dX7_mapsHold_53 : decode cX7_mapsHold 53 = .ok (.getfield 38, 3) := by decide +kernel
theorem dX7_mapsHold_56 : decode cX7_mapsHold 56 = .ok (.iload_n 1, 1) := by decide +kernel
theorem dX7_mapsHold_57 : decode cX7_mapsHold 57 = .ok (.invokevirtual 121, 3) := by decide +kernel
theorem dX7_mapsHold_60 : decode cX7_mapsHold 60 = .ok (.ifCond .ne 5, 3) := by decide +kernel
theorem dX7_mapsHold_63 : decode cX7_mapsHold 63 = .ok (.iconst 0, 1) := by decide +kernel
theorem dX7_mapsHold_64 : decode cX7_mapsHold 64 = .ok (.ireturn, 1) := by decide +kernel
theorem dX7_mapsHold_65 : decode cX7_mapsHold 65 = .ok (.iinc 1 1, 3) := by decide +kernel
theorem dX7_mapsHold_68 : decode cX7_mapsHold 68 = .ok (.goto (-22), 3) := by decide +kernel
theorem dX7_mapsHold_71 : decode cX7_mapsHold 71 = .ok (.iconst 0, 1) := by decide +kernel
theorem dX7_mapsHold_72 : decode cX7_mapsHold 72 = .ok (.istore_n 1, 1) := by decide +kernel
theorem dX7_mapsHold_73 : decode cX7_mapsHold 73 = .ok (.iload_n 1, 1) := by decide +kernel
theorem dX7_mapsHold_74 : decode cX7_mapsHold 74 = .ok (.aload_n 0, 1) := by decide +kernel
theorem dX7_mapsHold_75 : decode cX7_mapsHold 75 = .ok (.getfield 30, 3) := by decide +kernel
theorem dX7_mapsHold_78 : decode cX7_mapsHold 78 = .ok (.invokevirtual 103, 3) := by decide +kernel
theorem dX7_mapsHold_81 : decode cX7_mapsHold 81 = .ok (.if_icmp .ge 33, 3) := by decide +kernel
theorem dX7_mapsHold_84 : decode cX7_mapsHold 84 = .ok (.aload_n 0, 1) := by decide +kernel
theorem dX7_mapsHold_85 : decode cX7_mapsHold 85 = .ok (.getfield 34, 3) := by decide +kernel
theorem dX7_mapsHold_88 : decode cX7_mapsHold 88 = .ok (.iload_n 1, 1) := by decide +kernel
theorem dX7_mapsHold_89 : decode cX7_mapsHold 89 = .ok (.invokevirtual 221, 3) := by decide +kernel
theorem dX7_mapsHold_92 : decode cX7_mapsHold 92 = .ok (.ifCond .eq 14, 3) := by decide +kernel
theorem dX7_mapsHold_95 : decode cX7_mapsHold 95 = .ok (.aload_n 0, 1) := by decide +kernel
theorem dX7_mapsHold_96 : decode cX7_mapsHold 96 = .ok (.getfield 38, 3) := by decide +kernel
theorem dX7_mapsHold_99 : decode cX7_mapsHold 99 = .ok (.iload_n 1, 1) := by decide +kernel
theorem dX7_mapsHold_100 : decode cX7_mapsHold 100 = .ok (.invokevirtual 221, 3) := by decide +kernel
theorem dX7_mapsHold_103 : decode cX7_mapsHold 103 = .ok (.ifCond .ne 5, 3) := by decide +kernel
theorem dX7_mapsHold_106 : decode cX7_mapsHold 106 = .ok (.iconst 0, 1) := by decide +kernel
theorem dX7_mapsHold_107 : decode cX7_mapsHold 107 = .ok (.ireturn, 1) := by decide +kernel
theorem dX7_mapsHold_108 : decode cX7_mapsHold 108 = .ok (.iinc 1 1, 3) := by decide +kernel
theorem dX7_mapsHold_111 : decode cX7_mapsHold 111 = .ok (.goto (-38), 3) := by decide +kernel
theorem dX7_mapsHold_114 : decode cX7_mapsHold 114 = .ok (.iconst 1, 1) := by decide +kernel
theorem dX7_mapsHold_115 : decode cX7_mapsHold 115 = .ok (.ireturn, 1) := by decide +kernel
theorem dX7_headsHold_0 : decode cX7_headsHold 0 = .ok (.aload_n 0, 1) := by decide +kernel
theorem dX7_headsHold_1 : decode cX7_headsHold 1 = .ok (.getfield 14, 3) := by decide +kernel
theorem dX7_headsHold_4 : decode cX7_headsHold 4 = .ok (.iconst 0, 1) := by decide +kernel
theorem dX7_headsHold_5 : decode cX7_headsHold 5 = .ok (.aload_n 0, 1) := by decide +kernel
theorem dX7_headsHold_6 : decode cX7_headsHold 6 = .ok (.getfield 14, 3) := by decide +kernel
theorem dX7_headsHold_9 : decode cX7_headsHold 9 = .ok (.invokevirtual 140, 3) := by decide +kernel
theorem dX7_headsHold_12 : decode cX7_headsHold 12 = .ok (.iconst 0, 1) := by decide +kernel
theorem dX7_headsHold_13 : decode cX7_headsHold 13 = .ok (.invokevirtual 224, 3) := by decide +kernel
theorem dX7_headsHold_16 : decode cX7_headsHold 16 = .ok (.aload_n 0, 1) := by decide +kernel
theorem dX7_headsHold_17 : decode cX7_headsHold 17 = .ok (.getfield 49, 3) := by decide +kernel
theorem dX7_headsHold_20 : decode cX7_headsHold 20 = .ok (.aload_n 0, 1) := by decide +kernel
theorem dX7_headsHold_21 : decode cX7_headsHold 21 = .ok (.getfield 14, 3) := by decide +kernel
theorem dX7_headsHold_24 : decode cX7_headsHold 24 = .ok (.iconst 0, 1) := by decide +kernel
theorem dX7_headsHold_25 : decode cX7_headsHold 25 = .ok (.aload_n 0, 1) := by decide +kernel
theorem dX7_headsHold_26 : decode cX7_headsHold 26 = .ok (.getfield 27, 3) := by decide +kernel
theorem dX7_headsHold_29 : decode cX7_headsHold 29 = .ok (.sipush 1128, 3) := by decide +kernel
theorem dX7_headsHold_32 : decode cX7_headsHold 32 = .ok (.invokevirtual 136, 3) := by decide +kernel
theorem dX7_headsHold_35 : decode cX7_headsHold 35 = .ok (.invokevirtual 227, 3) := by decide +kernel
theorem dX7_headsHold_38 : decode cX7_headsHold 38 = .ok (.iconst 0, 1) := by decide +kernel
theorem dX7_headsHold_39 : decode cX7_headsHold 39 = .ok (.istore_n 1, 1) := by decide +kernel
theorem dX7_headsHold_40 : decode cX7_headsHold 40 = .ok (.iload_n 1, 1) := by decide +kernel
theorem dX7_headsHold_41 : decode cX7_headsHold 41 = .ok (.aload_n 0, 1) := by decide +kernel
theorem dX7_headsHold_42 : decode cX7_headsHold 42 = .ok (.getfield 30, 3) := by decide +kernel
theorem dX7_headsHold_45 : decode cX7_headsHold 45 = .ok (.invokevirtual 103, 3) := by decide +kernel
theorem dX7_headsHold_48 : decode cX7_headsHold 48 = .ok (.if_icmp .ge 71, 3) := by decide +kernel
theorem dX7_headsHold_51 : decode cX7_headsHold 51 = .ok (.aload_n 0, 1) := by decide +kernel
theorem dX7_headsHold_52 : decode cX7_headsHold 52 = .ok (.getfield 14, 3) := by decide +kernel
theorem dX7_headsHold_55 : decode cX7_headsHold 55 = .ok (.bipush 90, 2) := by decide +kernel
theorem dX7_headsHold_57 : decode cX7_headsHold 57 = .ok (.iload_n 1, 1) := by decide +kernel
theorem dX7_headsHold_58 : decode cX7_headsHold 58 = .ok (.invokevirtual 233, 3) := by decide +kernel
theorem dX7_headsHold_61 : decode cX7_headsHold 61 = .ok (.aload_n 0, 1) := by decide +kernel
theorem dX7_headsHold_62 : decode cX7_headsHold 62 = .ok (.getfield 30, 3) := by decide +kernel
theorem dX7_headsHold_65 : decode cX7_headsHold 65 = .ok (.iload_n 1, 1) := by decide +kernel
theorem dX7_headsHold_66 : decode cX7_headsHold 66 = .ok (.iconst 0, 1) := by decide +kernel
theorem dX7_headsHold_67 : decode cX7_headsHold 67 = .ok (.invokevirtual 237, 3) := by decide +kernel
theorem dX7_headsHold_70 : decode cX7_headsHold 70 = .ok (.istore_n 2, 1) := by decide +kernel
theorem dX7_headsHold_71 : decode cX7_headsHold 71 = .ok (.iconst 0, 1) := by decide +kernel
theorem dX7_headsHold_72 : decode cX7_headsHold 72 = .ok (.istore_n 3, 1) := by decide +kernel
theorem dX7_headsHold_73 : decode cX7_headsHold 73 = .ok (.iload_n 3, 1) := by decide +kernel
theorem dX7_headsHold_74 : decode cX7_headsHold 74 = .ok (.aload_n 0, 1) := by decide +kernel
theorem dX7_headsHold_75 : decode cX7_headsHold 75 = .ok (.getfield 14, 3) := by decide +kernel
theorem dX7_headsHold_78 : decode cX7_headsHold 78 = .ok (.invokevirtual 140, 3) := by decide +kernel
theorem dX7_headsHold_81 : decode cX7_headsHold 81 = .ok (.if_icmp .ge 32, 3) := by decide +kernel
theorem dX7_headsHold_84 : decode cX7_headsHold 84 = .ok (.aload_n 0, 1) := by decide +kernel
theorem dX7_headsHold_85 : decode cX7_headsHold 85 = .ok (.getfield 27, 3) := by decide +kernel
theorem dX7_headsHold_88 : decode cX7_headsHold 88 = .ok (.iload_n 2, 1) := by decide +kernel
theorem dX7_headsHold_89 : decode cX7_headsHold 89 = .ok (.iload_n 3, 1) := by decide +kernel
theorem dX7_headsHold_90 : decode cX7_headsHold 90 = .ok (.iadd, 1) := by decide +kernel
theorem dX7_headsHold_91 : decode cX7_headsHold 91 = .ok (.invokevirtual 206, 3) := by decide +kernel
theorem dX7_headsHold_94 : decode cX7_headsHold 94 = .ok (.aload_n 0, 1) := by decide +kernel
theorem dX7_headsHold_95 : decode cX7_headsHold 95 = .ok (.getfield 14, 3) := by decide +kernel
theorem dX7_headsHold_98 : decode cX7_headsHold 98 = .ok (.iload_n 3, 1) := by decide +kernel
theorem dX7_headsHold_99 : decode cX7_headsHold 99 = .ok (.invokevirtual 206, 3) := by decide +kernel
theorem dX7_headsHold_102 : decode cX7_headsHold 102 = .ok (.if_icmp .eq 5, 3) := by decide +kernel
theorem dX7_headsHold_105 : decode cX7_headsHold 105 = .ok (.iconst 0, 1) := by decide +kernel
theorem dX7_headsHold_106 : decode cX7_headsHold 106 = .ok (.ireturn, 1) := by decide +kernel
theorem dX7_headsHold_107 : decode cX7_headsHold 107 = .ok (.iinc 3 1, 3) := by decide +kernel
theorem dX7_headsHold_110 : decode cX7_headsHold 110 = .ok (.goto (-37), 3) := by decide +kernel
theorem dX7_headsHold_113 : decode cX7_headsHold 113 = .ok (.iinc 1 1, 3) := by decide +kernel
theorem dX7_headsHold_116 : decode cX7_headsHold 116 = .ok (.goto (-76), 3) := by decide +kernel
theorem dX7_headsHold_119 : decode cX7_headsHold 119 = .ok (.iconst 1, 1) := by decide +kernel
theorem dX7_headsHold_120 : decode cX7_headsHold 120 = .ok (.ireturn, 1) := by decide +kernel
theorem dX7_allHolds_0 : decode cX7_allHolds 0 = .ok (.aload_n 0, 1) := by decide +kernel
theorem dX7_allHolds_1 : decode cX7_allHolds 1 = .ok (.invokevirtual 69, 3) := by decide +kernel
theorem dX7_allHolds_4 : decode cX7_allHolds 4 = .ok (.aload_n 0, 1) := by decide +kernel
theorem dX7_allHolds_5 : decode cX7_allHolds 5 = .ok (.getfield 20, 3) := by decide +kernel
theorem dX7_allHolds_8 : decode cX7_allHolds 8 = .ok (.iconst 0, 1) := by decide +kernel
theorem dX7_allHolds_9 : decode cX7_allHolds 9 = .ok (.invokestatic 72, 3) := by decide +kernel
theorem dX7_allHolds_12 : decode cX7_allHolds 12 = .ok (.aload_n 0, 1) := by decide +kernel
theorem dX7_allHolds_13 : decode cX7_allHolds 13 = .ok (.getfield 24, 3) := by decide +kernel
theorem dX7_allHolds_16 : decode cX7_allHolds 16 = .ok (.iconst 0, 1) := by decide +kernel
theorem dX7_allHolds_17 : decode cX7_allHolds 17 = .ok (.invokestatic 72, 3) := by decide +kernel
theorem dX7_allHolds_20 : decode cX7_allHolds 20 = .ok (.aload_n 0, 1) := by decide +kernel
theorem dX7_allHolds_21 : decode cX7_allHolds 21 = .ok (.invokevirtual 78, 3) := by decide +kernel
theorem dX7_allHolds_24 : decode cX7_allHolds 24 = .ok (.ifCond .eq 46, 3) := by decide +kernel
theorem dX7_allHolds_27 : decode cX7_allHolds 27 = .ok (.aload_n 0, 1) := by decide +kernel
theorem dX7_allHolds_28 : decode cX7_allHolds 28 = .ok (.invokevirtual 82, 3) := by decide +kernel
theorem dX7_allHolds_31 : decode cX7_allHolds 31 = .ok (.ifCond .eq 39, 3) := by decide +kernel
theorem dX7_allHolds_34 : decode cX7_allHolds 34 = .ok (.aload_n 0, 1) := by decide +kernel
theorem dX7_allHolds_35 : decode cX7_allHolds 35 = .ok (.invokevirtual 85, 3) := by decide +kernel
theorem dX7_allHolds_38 : decode cX7_allHolds 38 = .ok (.ifCond .eq 32, 3) := by decide +kernel
theorem dX7_allHolds_41 : decode cX7_allHolds 41 = .ok (.aload_n 0, 1) := by decide +kernel
theorem dX7_allHolds_42 : decode cX7_allHolds 42 = .ok (.invokevirtual 88, 3) := by decide +kernel
theorem dX7_allHolds_45 : decode cX7_allHolds 45 = .ok (.ifCond .eq 25, 3) := by decide +kernel
theorem dX7_allHolds_48 : decode cX7_allHolds 48 = .ok (.aload_n 0, 1) := by decide +kernel
theorem dX7_allHolds_49 : decode cX7_allHolds 49 = .ok (.invokevirtual 91, 3) := by decide +kernel
theorem dX7_allHolds_52 : decode cX7_allHolds 52 = .ok (.ifCond .eq 18, 3) := by decide +kernel
theorem dX7_allHolds_55 : decode cX7_allHolds 55 = .ok (.aload_n 0, 1) := by decide +kernel
theorem dX7_allHolds_56 : decode cX7_allHolds 56 = .ok (.getfield 41, 3) := by decide +kernel
theorem dX7_allHolds_59 : decode cX7_allHolds 59 = .ok (.iload_n 1, 1) := by decide +kernel
theorem dX7_allHolds_60 : decode cX7_allHolds 60 = .ok (.invokevirtual 94, 3) := by decide +kernel
theorem dX7_allHolds_63 : decode cX7_allHolds 63 = .ok (.ifCond .eq 7, 3) := by decide +kernel
theorem dX7_allHolds_66 : decode cX7_allHolds 66 = .ok (.iconst 1, 1) := by decide +kernel
theorem dX7_allHolds_67 : decode cX7_allHolds 67 = .ok (.goto 4, 3) := by decide +kernel
theorem dX7_allHolds_70 : decode cX7_allHolds 70 = .ok (.iconst 0, 1) := by decide +kernel
theorem dX7_allHolds_71 : decode cX7_allHolds 71 = .ok (.ireturn, 1) := by decide +kernel
theorem dX0_fault_0 : decode cX0_fault 0 = .ok (.aload_n 0, 1) := by decide +kernel
theorem dX0_fault_1 : decode cX0_fault 1 = .ok (.getfield 142, 3) := by decide +kernel
theorem dX0_fault_4 : decode cX0_fault 4 = .ok (.ifCond .ne 5, 3) := by decide +kernel
theorem dX0_fault_7 : decode cX0_fault 7 = .ok (.iconst (-1), 1) := by decide +kernel
theorem dX0_fault_8 : decode cX0_fault 8 = .ok (.ireturn, 1) := by decide +kernel
theorem dX0_fault_9 : decode cX0_fault 9 = .ok (.aload_n 0, 1) := by decide +kernel
theorem dX0_fault_10 : decode cX0_fault 10 = .ok (.getfield 78, 3) := by decide +kernel
theorem dX0_fault_13 : decode cX0_fault 13 = .ok (.aload_n 0, 1) := by decide +kernel
theorem dX0_fault_14 : decode cX0_fault 14 = .ok (.getfield 89, 3) := by decide +kernel
theorem dX0_fault_17 : decode cX0_fault 17 = .ok (.invokevirtual 156, 3) := by decide +kernel
theorem dX0_fault_20 : decode cX0_fault 20 = .ok (.ifCond .eq 7, 3) := by decide +kernel
theorem dX0_fault_23 : decode cX0_fault 23 = .ok (.iconst 0, 1) := by decide +kernel
theorem dX0_fault_24 : decode cX0_fault 24 = .ok (.goto 4, 3) := by decide +kernel
theorem dX0_fault_27 : decode cX0_fault 27 = .ok (.iconst 1, 1) := by decide +kernel
theorem dX0_fault_28 : decode cX0_fault 28 = .ok (.ireturn, 1) := by decide +kernel
theorem dX0_many_0 : decode cX0_many 0 = .ok (.aload_n 0, 1) := by decide +kernel
theorem dX0_many_1 : decode cX0_many 1 = .ok (.getfield 142, 3) := by decide +kernel
theorem dX0_many_4 : decode cX0_many 4 = .ok (.ifCond .ne 5, 3) := by decide +kernel
theorem dX0_many_7 : decode cX0_many 7 = .ok (.iconst (-1), 1) := by decide +kernel
theorem dX0_many_8 : decode cX0_many 8 = .ok (.ireturn, 1) := by decide +kernel
theorem dX0_many_9 : decode cX0_many 9 = .ok (.iload_n 1, 1) := by decide +kernel
theorem dX0_many_10 : decode cX0_many 10 = .ok (.tableswitch 62 0 3 #[30, 38, 46, 54], 30) := by decide +kernel
theorem dX0_many_40 : decode cX0_many 40 = .ok (.aload_n 0, 1) := by decide +kernel
theorem dX0_many_41 : decode cX0_many 41 = .ok (.getfield 39, 3) := by decide +kernel
theorem dX0_many_44 : decode cX0_many 44 = .ok (.invokevirtual 146, 3) := by decide +kernel
theorem dX0_many_47 : decode cX0_many 47 = .ok (.ireturn, 1) := by decide +kernel
theorem dX0_many_48 : decode cX0_many 48 = .ok (.aload_n 0, 1) := by decide +kernel
theorem dX0_many_49 : decode cX0_many 49 = .ok (.getfield 43, 3) := by decide +kernel
theorem dX0_many_52 : decode cX0_many 52 = .ok (.invokevirtual 146, 3) := by decide +kernel
theorem dX0_many_55 : decode cX0_many 55 = .ok (.ireturn, 1) := by decide +kernel
theorem dX0_many_56 : decode cX0_many 56 = .ok (.aload_n 0, 1) := by decide +kernel
theorem dX0_many_57 : decode cX0_many 57 = .ok (.getfield 30, 3) := by decide +kernel
theorem dX0_many_60 : decode cX0_many 60 = .ok (.invokevirtual 159, 3) := by decide +kernel
theorem dX0_many_63 : decode cX0_many 63 = .ok (.ireturn, 1) := by decide +kernel
theorem dX0_many_64 : decode cX0_many 64 = .ok (.aload_n 0, 1) := by decide +kernel
theorem dX0_many_65 : decode cX0_many 65 = .ok (.getfield 30, 3) := by decide +kernel
theorem dX0_many_68 : decode cX0_many 68 = .ok (.invokevirtual 162, 3) := by decide +kernel
theorem dX0_many_71 : decode cX0_many 71 = .ok (.ireturn, 1) := by decide +kernel
theorem dX0_many_72 : decode cX0_many 72 = .ok (.iconst (-1), 1) := by decide +kernel
theorem dX0_many_73 : decode cX0_many 73 = .ok (.ireturn, 1) := by decide +kernel
theorem dX0_needVolume_0 : decode cX0_needVolume 0 = .ok (.aload_n 0, 1) := by decide +kernel
theorem dX0_needVolume_1 : decode cX0_needVolume 1 = .ok (.getfield 142, 3) := by decide +kernel
theorem dX0_needVolume_4 : decode cX0_needVolume 4 = .ok (.ifCond .ne 14, 3) := by decide +kernel
theorem dX0_needVolume_7 : decode cX0_needVolume 7 = .ok (.new 283, 3) := by decide +kernel
theorem dX0_needVolume_10 : decode cX0_needVolume 10 = .ok (.dup, 1) := by decide +kernel
theorem dX0_needVolume_11 : decode cX0_needVolume 11 = .ok (.ldc_w 285, 3) := by decide +kernel
theorem dX0_needVolume_14 : decode cX0_needVolume 14 = .ok (.invokespecial 287, 3) := by decide +kernel
theorem dX0_needVolume_17 : decode cX0_needVolume 17 = .ok (.athrow, 1) := by decide +kernel
theorem dX0_needVolume_18 : decode cX0_needVolume 18 = .ok (.return_, 1) := by decide +kernel
theorem dX5_itemCount_0 : decode cX5_itemCount 0 = .ok (.iconst 0, 1) := by decide +kernel
theorem dX5_itemCount_1 : decode cX5_itemCount 1 = .ok (.istore_n 1, 1) := by decide +kernel
theorem dX5_itemCount_2 : decode cX5_itemCount 2 = .ok (.iconst 2, 1) := by decide +kernel
theorem dX5_itemCount_3 : decode cX5_itemCount 3 = .ok (.istore_n 2, 1) := by decide +kernel
theorem dX5_itemCount_4 : decode cX5_itemCount 4 = .ok (.iload_n 2, 1) := by decide +kernel
theorem dX5_itemCount_5 : decode cX5_itemCount 5 = .ok (.aload_n 0, 1) := by decide +kernel
theorem dX5_itemCount_6 : decode cX5_itemCount 6 = .ok (.getfield 23, 3) := by decide +kernel
theorem dX5_itemCount_9 : decode cX5_itemCount 9 = .ok (.if_icmp .ge 20, 3) := by decide +kernel
theorem dX5_itemCount_12 : decode cX5_itemCount 12 = .ok (.aload_n 0, 1) := by decide +kernel
theorem dX5_itemCount_13 : decode cX5_itemCount 13 = .ok (.iload_n 2, 1) := by decide +kernel
theorem dX5_itemCount_14 : decode cX5_itemCount 14 = .ok (.invokevirtual 65, 3) := by decide +kernel
theorem dX5_itemCount_17 : decode cX5_itemCount 17 = .ok (.ifCond .eq 6, 3) := by decide +kernel
theorem dX5_itemCount_20 : decode cX5_itemCount 20 = .ok (.iinc 1 1, 3) := by decide +kernel
theorem dX5_itemCount_23 : decode cX5_itemCount 23 = .ok (.iinc 2 1, 3) := by decide +kernel
theorem dX5_itemCount_26 : decode cX5_itemCount 26 = .ok (.goto (-22), 3) := by decide +kernel
theorem dX5_itemCount_29 : decode cX5_itemCount 29 = .ok (.iload_n 1, 1) := by decide +kernel
theorem dX5_itemCount_30 : decode cX5_itemCount 30 = .ok (.ireturn, 1) := by decide +kernel
theorem dX0_items_0 : decode cX0_items 0 = .ok (.aload_n 0, 1) := by decide +kernel
theorem dX0_items_1 : decode cX0_items 1 = .ok (.invokevirtual 165, 3) := by decide +kernel
theorem dX0_items_4 : decode cX0_items 4 = .ok (.aload_n 0, 1) := by decide +kernel
theorem dX0_items_5 : decode cX0_items 5 = .ok (.getfield 60, 3) := by decide +kernel
theorem dX0_items_8 : decode cX0_items 8 = .ok (.aload_n 0, 1) := by decide +kernel
theorem dX0_items_9 : decode cX0_items 9 = .ok (.getfield 89, 3) := by decide +kernel
theorem dX0_items_12 : decode cX0_items 12 = .ok (.invokevirtual 168, 3) := by decide +kernel
theorem dX0_items_15 : decode cX0_items 15 = .ok (.aload_n 0, 1) := by decide +kernel
theorem dX0_items_16 : decode cX0_items 16 = .ok (.getfield 60, 3) := by decide +kernel
theorem dX0_items_19 : decode cX0_items 19 = .ok (.invokevirtual 171, 3) := by decide +kernel
theorem dX0_items_22 : decode cX0_items 22 = .ok (.ireturn, 1) := by decide +kernel
theorem dX5_placeOf_0 : decode cX5_placeOf 0 = .ok (.iconst 0, 1) := by decide +kernel
theorem dX5_placeOf_1 : decode cX5_placeOf 1 = .ok (.istore_n 2, 1) := by decide +kernel
theorem dX5_placeOf_2 : decode cX5_placeOf 2 = .ok (.iconst 2, 1) := by decide +kernel
theorem dX5_placeOf_3 : decode cX5_placeOf 3 = .ok (.istore_n 3, 1) := by decide +kernel
theorem dX5_placeOf_4 : decode cX5_placeOf 4 = .ok (.iload_n 3, 1) := by decide +kernel
theorem dX5_placeOf_5 : decode cX5_placeOf 5 = .ok (.aload_n 0, 1) := by decide +kernel
theorem dX5_placeOf_6 : decode cX5_placeOf 6 = .ok (.getfield 23, 3) := by decide +kernel
theorem dX5_placeOf_9 : decode cX5_placeOf 9 = .ok (.if_icmp .ge 27, 3) := by decide +kernel
theorem dX5_placeOf_12 : decode cX5_placeOf 12 = .ok (.aload_n 0, 1) := by decide +kernel
theorem dX5_placeOf_13 : decode cX5_placeOf 13 = .ok (.iload_n 3, 1) := by decide +kernel
theorem dX5_placeOf_14 : decode cX5_placeOf 14 = .ok (.invokevirtual 65, 3) := by decide +kernel
theorem dX5_placeOf_17 : decode cX5_placeOf 17 = .ok (.ifCond .eq 13, 3) := by decide +kernel
theorem dX5_placeOf_20 : decode cX5_placeOf 20 = .ok (.iload_n 2, 1) := by decide +kernel
theorem dX5_placeOf_21 : decode cX5_placeOf 21 = .ok (.iload_n 1, 1) := by decide +kernel
theorem dX5_placeOf_22 : decode cX5_placeOf 22 = .ok (.if_icmp .ne 5, 3) := by decide +kernel
theorem dX5_placeOf_25 : decode cX5_placeOf 25 = .ok (.iload_n 3, 1) := by decide +kernel
theorem dX5_placeOf_26 : decode cX5_placeOf 26 = .ok (.ireturn, 1) := by decide +kernel
theorem dX5_placeOf_27 : decode cX5_placeOf 27 = .ok (.iinc 2 1, 3) := by decide +kernel
theorem dX5_placeOf_30 : decode cX5_placeOf 30 = .ok (.iinc 3 1, 3) := by decide +kernel
theorem dX5_placeOf_33 : decode cX5_placeOf 33 = .ok (.goto (-29), 3) := by decide +kernel
theorem dX5_placeOf_36 : decode cX5_placeOf 36 = .ok (.iconst (-1), 1) := by decide +kernel
theorem dX5_placeOf_37 : decode cX5_placeOf 37 = .ok (.ireturn, 1) := by decide +kernel
theorem dX0_itemHere_0 : decode cX0_itemHere 0 = .ok (.aload_n 0, 1) := by decide +kernel
theorem dX0_itemHere_1 : decode cX0_itemHere 1 = .ok (.invokevirtual 165, 3) := by decide +kernel
theorem dX0_itemHere_4 : decode cX0_itemHere 4 = .ok (.aload_n 0, 1) := by decide +kernel
theorem dX0_itemHere_5 : decode cX0_itemHere 5 = .ok (.getfield 60, 3) := by decide +kernel
theorem dX0_itemHere_8 : decode cX0_itemHere 8 = .ok (.aload_n 0, 1) := by decide +kernel
theorem dX0_itemHere_9 : decode cX0_itemHere 9 = .ok (.getfield 89, 3) := by decide +kernel
theorem dX0_itemHere_12 : decode cX0_itemHere 12 = .ok (.invokevirtual 168, 3) := by decide +kernel
theorem dX0_itemHere_15 : decode cX0_itemHere 15 = .ok (.aload_n 0, 1) := by decide +kernel
theorem dX0_itemHere_16 : decode cX0_itemHere 16 = .ok (.getfield 60, 3) := by decide +kernel
theorem dX0_itemHere_19 : decode cX0_itemHere 19 = .ok (.iload_n 1, 1) := by decide +kernel
theorem dX0_itemHere_20 : decode cX0_itemHere 20 = .ok (.invokevirtual 288, 3) := by decide +kernel
theorem dX0_itemHere_23 : decode cX0_itemHere 23 = .ok (.istore_n 2, 1) := by decide +kernel
theorem dX0_itemHere_24 : decode cX0_itemHere 24 = .ok (.iload_n 2, 1) := by decide +kernel
theorem dX0_itemHere_25 : decode cX0_itemHere 25 = .ok (.iconst (-1), 1) := by decide +kernel
theorem dX0_itemHere_26 : decode cX0_itemHere 26 = .ok (.if_icmp .ne 14, 3) := by decide +kernel
theorem dX0_itemHere_29 : decode cX0_itemHere 29 = .ok (.new 291, 3) := by decide +kernel
theorem dX0_itemHere_32 : decode cX0_itemHere 32 = .ok (.dup, 1) := by decide +kernel
theorem dX0_itemHere_33 : decode cX0_itemHere 33 = .ok (.ldc_w 293, 3) := by decide +kernel
theorem dX0_itemHere_36 : decode cX0_itemHere 36 = .ok (.invokespecial 295, 3) := by decide +kernel
theorem dX0_itemHere_39 : decode cX0_itemHere 39 = .ok (.athrow, 1) := by decide +kernel
theorem dX0_itemHere_40 : decode cX0_itemHere 40 = .ok (.iload_n 2, 1) := by decide +kernel
theorem dX0_itemHere_41 : decode cX0_itemHere 41 = .ok (.ireturn, 1) := by decide +kernel
theorem dX0_letter_0 : decode cX0_letter 0 = .ok (.aload_n 0, 1) := by decide +kernel
theorem dX0_letter_1 : decode cX0_letter 1 = .ok (.getfield 60, 3) := by decide +kernel
theorem dX0_letter_4 : decode cX0_letter 4 = .ok (.aload_n 0, 1) := by decide +kernel
theorem dX0_letter_5 : decode cX0_letter 5 = .ok (.iload_n 1, 1) := by decide +kernel
theorem dX0_letter_6 : decode cX0_letter 6 = .ok (.invokevirtual 174, 3) := by decide +kernel
theorem dX0_letter_9 : decode cX0_letter 9 = .ok (.iload_n 2, 1) := by decide +kernel
theorem dX0_letter_10 : decode cX0_letter 10 = .ok (.invokevirtual 177, 3) := by decide +kernel
theorem dX0_letter_13 : decode cX0_letter 13 = .ok (.ireturn, 1) := by decide +kernel
theorem dX4_time_0 : decode cX4_time 0 = .ok (.aload_n 0, 1) := by decide +kernel
theorem dX4_time_1 : decode cX4_time 1 = .ok (.getfield 9, 3) := by decide +kernel
theorem dX4_time_4 : decode cX4_time 4 = .ok (.aload_n 0, 1) := by decide +kernel
theorem dX4_time_5 : decode cX4_time 5 = .ok (.getfield 15, 3) := by decide +kernel
theorem dX4_time_8 : decode cX4_time 8 = .ok (.iload_n 1, 1) := by decide +kernel
theorem dX4_time_9 : decode cX4_time 9 = .ok (.invokevirtual 23, 3) := by decide +kernel
theorem dX4_time_12 : decode cX4_time 12 = .ok (.bipush 8, 2) := by decide +kernel
theorem dX4_time_14 : decode cX4_time 14 = .ok (.iadd, 1) := by decide +kernel
theorem dX4_time_15 : decode cX4_time 15 = .ok (.iconst 4, 1) := by decide +kernel
theorem dX4_time_16 : decode cX4_time 16 = .ok (.iload_n 2, 1) := by decide +kernel
theorem dX4_time_17 : decode cX4_time 17 = .ok (.imul, 1) := by decide +kernel
theorem dX4_time_18 : decode cX4_time 18 = .ok (.iadd, 1) := by decide +kernel
theorem dX4_time_19 : decode cX4_time 19 = .ok (.invokevirtual 34, 3) := by decide +kernel
theorem dX4_time_22 : decode cX4_time 22 = .ok (.i2l, 1) := by decide +kernel
theorem dX4_time_23 : decode cX4_time 23 = .ok (.ldc2_w 44, 3) := by decide +kernel
theorem dX4_time_26 : decode cX4_time 26 = .ok (.land, 1) := by decide +kernel
theorem dX4_time_27 : decode cX4_time 27 = .ok (.lreturn, 1) := by decide +kernel
theorem dX0_about_0 : decode cX0_about 0 = .ok (.aload_n 0, 1) := by decide +kernel
theorem dX0_about_1 : decode cX0_about 1 = .ok (.getfield 60, 3) := by decide +kernel
theorem dX0_about_4 : decode cX0_about 4 = .ok (.aload_n 0, 1) := by decide +kernel
theorem dX0_about_5 : decode cX0_about 5 = .ok (.iload_n 1, 1) := by decide +kernel
theorem dX0_about_6 : decode cX0_about 6 = .ok (.invokevirtual 174, 3) := by decide +kernel
theorem dX0_about_9 : decode cX0_about 9 = .ok (.invokevirtual 180, 3) := by decide +kernel
theorem dX0_about_12 : decode cX0_about 12 = .ok (.istore_n 3, 1) := by decide +kernel
theorem dX0_about_13 : decode cX0_about 13 = .ok (.iload_n 2, 1) := by decide +kernel
theorem dX0_about_14 : decode cX0_about 14 = .ok (.tableswitch 94 0 6 #[42, 45, 62, 72, 82, 82, 82], 42) := by decide +kernel
theorem dX0_about_56 : decode cX0_about 56 = .ok (.iload_n 3, 1) := by decide +kernel
theorem dX0_about_57 : decode cX0_about 57 = .ok (.i2l, 1) := by decide +kernel
theorem dX0_about_58 : decode cX0_about 58 = .ok (.lreturn, 1) := by decide +kernel
theorem dX0_about_59 : decode cX0_about 59 = .ok (.aload_n 0, 1) := by decide +kernel
theorem dX0_about_60 : decode cX0_about 60 = .ok (.getfield 51, 3) := by decide +kernel
theorem dX0_about_63 : decode cX0_about 63 = .ok (.iload_n 3, 1) := by decide +kernel
theorem dX0_about_64 : decode cX0_about 64 = .ok (.invokevirtual 183, 3) := by decide +kernel
theorem dX0_about_67 : decode cX0_about 67 = .ok (.ifCond .eq 7, 3) := by decide +kernel
theorem dX0_about_70 : decode cX0_about 70 = .ok (.lconst 1, 1) := by decide +kernel
theorem dX0_about_71 : decode cX0_about 71 = .ok (.goto 4, 3) := by decide +kernel
theorem dX0_about_74 : decode cX0_about 74 = .ok (.lconst 0, 1) := by decide +kernel
theorem dX0_about_75 : decode cX0_about 75 = .ok (.lreturn, 1) := by decide +kernel
theorem dX0_about_76 : decode cX0_about 76 = .ok (.aload_n 0, 1) := by decide +kernel
theorem dX0_about_77 : decode cX0_about 77 = .ok (.getfield 51, 3) := by decide +kernel
theorem dX0_about_80 : decode cX0_about 80 = .ok (.iload_n 3, 1) := by decide +kernel
theorem dX0_about_81 : decode cX0_about 81 = .ok (.invokevirtual 186, 3) := by decide +kernel
theorem dX0_about_84 : decode cX0_about 84 = .ok (.i2l, 1) := by decide +kernel
theorem dX0_about_85 : decode cX0_about 85 = .ok (.lreturn, 1) := by decide +kernel
theorem dX0_about_86 : decode cX0_about 86 = .ok (.aload_n 0, 1) := by decide +kernel
theorem dX0_about_87 : decode cX0_about 87 = .ok (.getfield 51, 3) := by decide +kernel
theorem dX0_about_90 : decode cX0_about 90 = .ok (.iload_n 3, 1) := by decide +kernel
theorem dX0_about_91 : decode cX0_about 91 = .ok (.invokevirtual 189, 3) := by decide +kernel
theorem dX0_about_94 : decode cX0_about 94 = .ok (.i2l, 1) := by decide +kernel
theorem dX0_about_95 : decode cX0_about 95 = .ok (.lreturn, 1) := by decide +kernel
theorem dX0_about_96 : decode cX0_about 96 = .ok (.aload_n 0, 1) := by decide +kernel
theorem dX0_about_97 : decode cX0_about 97 = .ok (.getfield 51, 3) := by decide +kernel
theorem dX0_about_100 : decode cX0_about 100 = .ok (.iload_n 3, 1) := by decide +kernel
theorem dX0_about_101 : decode cX0_about 101 = .ok (.iload_n 2, 1) := by decide +kernel
theorem dX0_about_102 : decode cX0_about 102 = .ok (.iconst 4, 1) := by decide +kernel
theorem dX0_about_103 : decode cX0_about 103 = .ok (.isub, 1) := by decide +kernel
theorem dX0_about_104 : decode cX0_about 104 = .ok (.invokevirtual 192, 3) := by decide +kernel
theorem dX0_about_107 : decode cX0_about 107 = .ok (.lreturn, 1) := by decide +kernel
theorem dX0_about_108 : decode cX0_about 108 = .ok (.new 105, 3) := by decide +kernel
theorem dX0_about_111 : decode cX0_about 111 = .ok (.dup, 1) := by decide +kernel
theorem dX0_about_112 : decode cX0_about 112 = .ok (.ldc 196, 2) := by decide +kernel
theorem dX0_about_114 : decode cX0_about 114 = .ok (.invokespecial 109, 3) := by decide +kernel
theorem dX0_about_117 : decode cX0_about 117 = .ok (.athrow, 1) := by decide +kernel
theorem dX0_content_0 : decode cX0_content 0 = .ok (.aload_n 0, 1) := by decide +kernel
theorem dX0_content_1 : decode cX0_content 1 = .ok (.getfield 60, 3) := by decide +kernel
theorem dX0_content_4 : decode cX0_content 4 = .ok (.aload_n 0, 1) := by decide +kernel
theorem dX0_content_5 : decode cX0_content 5 = .ok (.iload_n 1, 1) := by decide +kernel
theorem dX0_content_6 : decode cX0_content 6 = .ok (.invokevirtual 174, 3) := by decide +kernel
theorem dX0_content_9 : decode cX0_content 9 = .ok (.invokevirtual 180, 3) := by decide +kernel
theorem dX0_content_12 : decode cX0_content 12 = .ok (.istore_n 3, 1) := by decide +kernel
theorem dX0_content_13 : decode cX0_content 13 = .ok (.aload_n 0, 1) := by decide +kernel
theorem dX0_content_14 : decode cX0_content 14 = .ok (.getfield 51, 3) := by decide +kernel
theorem dX0_content_17 : decode cX0_content 17 = .ok (.iload_n 3, 1) := by decide +kernel
theorem dX0_content_18 : decode cX0_content 18 = .ok (.invokevirtual 183, 3) := by decide +kernel
theorem dX0_content_21 : decode cX0_content 21 = .ok (.ifCond .ne 19, 3) := by decide +kernel
theorem dX0_content_24 : decode cX0_content 24 = .ok (.iload_n 2, 1) := by decide +kernel
theorem dX0_content_25 : decode cX0_content 25 = .ok (.ifCond .lt 15, 3) := by decide +kernel
theorem dX0_content_28 : decode cX0_content 28 = .ok (.iload_n 2, 1) := by decide +kernel
theorem dX0_content_29 : decode cX0_content 29 = .ok (.aload_n 0, 1) := by decide +kernel
theorem dX0_content_30 : decode cX0_content 30 = .ok (.getfield 51, 3) := by decide +kernel
theorem dX0_content_33 : decode cX0_content 33 = .ok (.iload_n 3, 1) := by decide +kernel
theorem dX0_content_34 : decode cX0_content 34 = .ok (.invokevirtual 186, 3) := by decide +kernel
theorem dX0_content_37 : decode cX0_content 37 = .ok (.if_icmp .lt 5, 3) := by decide +kernel
theorem dX0_content_40 : decode cX0_content 40 = .ok (.iconst (-1), 1) := by decide +kernel
theorem dX0_content_41 : decode cX0_content 41 = .ok (.ireturn, 1) := by decide +kernel
theorem dX0_content_42 : decode cX0_content 42 = .ok (.aload_n 0, 1) := by decide +kernel
theorem dX0_content_43 : decode cX0_content 43 = .ok (.getfield 23, 3) := by decide +kernel
theorem dX0_content_46 : decode cX0_content 46 = .ok (.aload_n 0, 1) := by decide +kernel
theorem dX0_content_47 : decode cX0_content 47 = .ok (.getfield 51, 3) := by decide +kernel
theorem dX0_content_50 : decode cX0_content 50 = .ok (.iload_n 3, 1) := by decide +kernel
theorem dX0_content_51 : decode cX0_content 51 = .ok (.iload_n 2, 1) := by decide +kernel
theorem dX0_content_52 : decode cX0_content 52 = .ok (.sipush 1024, 3) := by decide +kernel
theorem dX0_content_55 : decode cX0_content 55 = .ok (.idiv, 1) := by decide +kernel
theorem dX0_content_56 : decode cX0_content 56 = .ok (.invokevirtual 198, 3) := by decide +kernel
theorem dX0_content_59 : decode cX0_content 59 = .ok (.sipush 1024, 3) := by decide +kernel
theorem dX0_content_62 : decode cX0_content 62 = .ok (.imul, 1) := by decide +kernel
theorem dX0_content_63 : decode cX0_content 63 = .ok (.iload_n 2, 1) := by decide +kernel
theorem dX0_content_64 : decode cX0_content 64 = .ok (.sipush 1024, 3) := by decide +kernel
theorem dX0_content_67 : decode cX0_content 67 = .ok (.irem, 1) := by decide +kernel
theorem dX0_content_68 : decode cX0_content 68 = .ok (.iadd, 1) := by decide +kernel
theorem dX0_content_69 : decode cX0_content 69 = .ok (.invokevirtual 153, 3) := by decide +kernel
theorem dX0_content_72 : decode cX0_content 72 = .ok (.ireturn, 1) := by decide +kernel
theorem dX0_enter_0 : decode cX0_enter 0 = .ok (.aload_n 0, 1) := by decide +kernel
theorem dX0_enter_1 : decode cX0_enter 1 = .ok (.getfield 60, 3) := by decide +kernel
theorem dX0_enter_4 : decode cX0_enter 4 = .ok (.aload_n 0, 1) := by decide +kernel
theorem dX0_enter_5 : decode cX0_enter 5 = .ok (.iload_n 1, 1) := by decide +kernel
theorem dX0_enter_6 : decode cX0_enter 6 = .ok (.invokevirtual 174, 3) := by decide +kernel
theorem dX0_enter_9 : decode cX0_enter 9 = .ok (.invokevirtual 180, 3) := by decide +kernel
theorem dX0_enter_12 : decode cX0_enter 12 = .ok (.istore_n 2, 1) := by decide +kernel
theorem dX0_enter_13 : decode cX0_enter 13 = .ok (.aload_n 0, 1) := by decide +kernel
theorem dX0_enter_14 : decode cX0_enter 14 = .ok (.getfield 51, 3) := by decide +kernel
theorem dX0_enter_17 : decode cX0_enter 17 = .ok (.iload_n 2, 1) := by decide +kernel
theorem dX0_enter_18 : decode cX0_enter 18 = .ok (.invokevirtual 183, 3) := by decide +kernel
theorem dX0_enter_21 : decode cX0_enter 21 = .ok (.ifCond .ne 13, 3) := by decide +kernel
theorem dX0_enter_24 : decode cX0_enter 24 = .ok (.new 105, 3) := by decide +kernel
theorem dX0_enter_27 : decode cX0_enter 27 = .ok (.dup, 1) := by decide +kernel
theorem dX0_enter_28 : decode cX0_enter 28 = .ok (.ldc 201, 2) := by decide +kernel
theorem dX0_enter_30 : decode cX0_enter 30 = .ok (.invokespecial 109, 3) := by decide +kernel
theorem dX0_enter_33 : decode cX0_enter 33 = .ok (.athrow, 1) := by decide +kernel
theorem dX0_enter_34 : decode cX0_enter 34 = .ok (.aload_n 0, 1) := by decide +kernel
theorem dX0_enter_35 : decode cX0_enter 35 = .ok (.iload_n 2, 1) := by decide +kernel
theorem dX0_enter_36 : decode cX0_enter 36 = .ok (.putfield 89, 3) := by decide +kernel
theorem dX0_enter_39 : decode cX0_enter 39 = .ok (.aload_n 0, 1) := by decide +kernel
theorem dX0_enter_40 : decode cX0_enter 40 = .ok (.getfield 60, 3) := by decide +kernel
theorem dX0_enter_43 : decode cX0_enter 43 = .ok (.aload_n 0, 1) := by decide +kernel
theorem dX0_enter_44 : decode cX0_enter 44 = .ok (.getfield 89, 3) := by decide +kernel
theorem dX0_enter_47 : decode cX0_enter 47 = .ok (.invokevirtual 168, 3) := by decide +kernel
theorem dX0_enter_50 : decode cX0_enter 50 = .ok (.aload_n 0, 1) := by decide +kernel
theorem dX0_enter_51 : decode cX0_enter 51 = .ok (.getfield 60, 3) := by decide +kernel
theorem dX0_enter_54 : decode cX0_enter 54 = .ok (.invokevirtual 171, 3) := by decide +kernel
theorem dX0_enter_57 : decode cX0_enter 57 = .ok (.ireturn, 1) := by decide +kernel
theorem dX0_up_0 : decode cX0_up 0 = .ok (.aload_n 0, 1) := by decide +kernel
theorem dX0_up_1 : decode cX0_up 1 = .ok (.invokevirtual 165, 3) := by decide +kernel
theorem dX0_up_4 : decode cX0_up 4 = .ok (.aload_n 0, 1) := by decide +kernel
theorem dX0_up_5 : decode cX0_up 5 = .ok (.getfield 89, 3) := by decide +kernel
theorem dX0_up_8 : decode cX0_up 8 = .ok (.iconst 2, 1) := by decide +kernel
theorem dX0_up_9 : decode cX0_up 9 = .ok (.if_icmp .ne 5, 3) := by decide +kernel
theorem dX0_up_12 : decode cX0_up 12 = .ok (.iconst 0, 1) := by decide +kernel
theorem dX0_up_13 : decode cX0_up 13 = .ok (.ireturn, 1) := by decide +kernel
theorem dX0_up_14 : decode cX0_up 14 = .ok (.aload_n 0, 1) := by decide +kernel
theorem dX0_up_15 : decode cX0_up 15 = .ok (.getfield 60, 3) := by decide +kernel
theorem dX0_up_18 : decode cX0_up 18 = .ok (.aload_n 0, 1) := by decide +kernel
theorem dX0_up_19 : decode cX0_up 19 = .ok (.getfield 89, 3) := by decide +kernel
theorem dX0_up_22 : decode cX0_up 22 = .ok (.invokevirtual 168, 3) := by decide +kernel
theorem dX0_up_25 : decode cX0_up 25 = .ok (.aload_n 0, 1) := by decide +kernel
theorem dX0_up_26 : decode cX0_up 26 = .ok (.aload_n 0, 1) := by decide +kernel
theorem dX0_up_27 : decode cX0_up 27 = .ok (.getfield 60, 3) := by decide +kernel
theorem dX0_up_30 : decode cX0_up 30 = .ok (.invokevirtual 203, 3) := by decide +kernel
theorem dX0_up_33 : decode cX0_up 33 = .ok (.putfield 89, 3) := by decide +kernel
theorem dX0_up_36 : decode cX0_up 36 = .ok (.iconst 1, 1) := by decide +kernel
theorem dX0_up_37 : decode cX0_up 37 = .ok (.ireturn, 1) := by decide +kernel
theorem dX8_drain_0 : decode cX8_drain 0 = .ok (.aload_n 0, 1) := by decide +kernel
theorem dX8_drain_1 : decode cX8_drain 1 = .ok (.getfield 18, 3) := by decide +kernel
theorem dX8_drain_4 : decode cX8_drain 4 = .ok (.istore_n 1, 1) := by decide +kernel
theorem dX8_drain_5 : decode cX8_drain 5 = .ok (.aload_n 0, 1) := by decide +kernel
theorem dX8_drain_6 : decode cX8_drain 6 = .ok (.iconst 0, 1) := by decide +kernel
theorem dX8_drain_7 : decode cX8_drain 7 = .ok (.putfield 18, 3) := by decide +kernel
theorem dX8_drain_10 : decode cX8_drain 10 = .ok (.iload_n 1, 1) := by decide +kernel
theorem dX8_drain_11 : decode cX8_drain 11 = .ok (.ireturn, 1) := by decide +kernel
theorem dX8_valueAt_0 : decode cX8_valueAt 0 = .ok (.iload_n 1, 1) := by decide +kernel
theorem dX8_valueAt_1 : decode cX8_valueAt 1 = .ok (.ifCond .lt 25, 3) := by decide +kernel
theorem dX8_valueAt_4 : decode cX8_valueAt 4 = .ok (.iload_n 1, 1) := by decide +kernel
theorem dX8_valueAt_5 : decode cX8_valueAt 5 = .ok (.aload_n 0, 1) := by decide +kernel
theorem dX8_valueAt_6 : decode cX8_valueAt 6 = .ok (.getfield 9, 3) := by decide +kernel
theorem dX8_valueAt_9 : decode cX8_valueAt 9 = .ok (.arraylength, 1) := by decide +kernel
theorem dX8_valueAt_10 : decode cX8_valueAt 10 = .ok (.if_icmp .ge 16, 3) := by decide +kernel
theorem dX8_valueAt_13 : decode cX8_valueAt 13 = .ok (.aload_n 0, 1) := by decide +kernel
theorem dX8_valueAt_14 : decode cX8_valueAt 14 = .ok (.getfield 9, 3) := by decide +kernel
theorem dX8_valueAt_17 : decode cX8_valueAt 17 = .ok (.iload_n 1, 1) := by decide +kernel
theorem dX8_valueAt_18 : decode cX8_valueAt 18 = .ok (.baload, 1) := by decide +kernel
theorem dX8_valueAt_19 : decode cX8_valueAt 19 = .ok (.sipush 255, 3) := by decide +kernel
theorem dX8_valueAt_22 : decode cX8_valueAt 22 = .ok (.iand, 1) := by decide +kernel
theorem dX8_valueAt_23 : decode cX8_valueAt 23 = .ok (.goto 4, 3) := by decide +kernel
theorem dX8_valueAt_26 : decode cX8_valueAt 26 = .ok (.iconst 0, 1) := by decide +kernel
theorem dX8_valueAt_27 : decode cX8_valueAt 27 = .ok (.ireturn, 1) := by decide +kernel
theorem dX8_isName_0 : decode cX8_isName 0 = .ok (.iload_n 1, 1) := by decide +kernel
theorem dX8_isName_1 : decode cX8_isName 1 = .ok (.iconst 1, 1) := by decide +kernel
theorem dX8_isName_2 : decode cX8_isName 2 = .ok (.if_icmp .lt 10, 3) := by decide +kernel
theorem dX8_isName_5 : decode cX8_isName 5 = .ok (.iload_n 1, 1) := by decide +kernel
theorem dX8_isName_6 : decode cX8_isName 6 = .ok (.sipush 255, 3) := by decide +kernel
theorem dX8_isName_9 : decode cX8_isName 9 = .ok (.if_icmp .le 5, 3) := by decide +kernel
theorem dX8_isName_12 : decode cX8_isName 12 = .ok (.iconst 0, 1) := by decide +kernel
theorem dX8_isName_13 : decode cX8_isName 13 = .ok (.ireturn, 1) := by decide +kernel
theorem dX8_isName_14 : decode cX8_isName 14 = .ok (.iconst 0, 1) := by decide +kernel
theorem dX8_isName_15 : decode cX8_isName 15 = .ok (.istore_n 2, 1) := by decide +kernel
theorem dX8_isName_16 : decode cX8_isName 16 = .ok (.iload_n 2, 1) := by decide +kernel
theorem dX8_isName_17 : decode cX8_isName 17 = .ok (.iload_n 1, 1) := by decide +kernel
theorem dX8_isName_18 : decode cX8_isName 18 = .ok (.if_icmp .ge 29, 3) := by decide +kernel
theorem dX8_isName_21 : decode cX8_isName 21 = .ok (.aload_n 0, 1) := by decide +kernel
theorem dX8_isName_22 : decode cX8_isName 22 = .ok (.iload_n 2, 1) := by decide +kernel
theorem dX8_isName_23 : decode cX8_isName 23 = .ok (.invokevirtual 34, 3) := by decide +kernel
theorem dX8_isName_26 : decode cX8_isName 26 = .ok (.ifCond .eq 13, 3) := by decide +kernel
theorem dX8_isName_29 : decode cX8_isName 29 = .ok (.aload_n 0, 1) := by decide +kernel
theorem dX8_isName_30 : decode cX8_isName 30 = .ok (.iload_n 2, 1) := by decide +kernel
theorem dX8_isName_31 : decode cX8_isName 31 = .ok (.invokevirtual 34, 3) := by decide +kernel
theorem dX8_isName_34 : decode cX8_isName 34 = .ok (.bipush 47, 2) := by decide +kernel
theorem dX8_isName_36 : decode cX8_isName 36 = .ok (.if_icmp .ne 5, 3) := by decide +kernel
theorem dX8_isName_39 : decode cX8_isName 39 = .ok (.iconst 0, 1) := by decide +kernel
theorem dX8_isName_40 : decode cX8_isName 40 = .ok (.ireturn, 1) := by decide +kernel
theorem dX8_isName_41 : decode cX8_isName 41 = .ok (.iinc 2 1, 3) := by decide +kernel
theorem dX8_isName_44 : decode cX8_isName 44 = .ok (.goto (-28), 3) := by decide +kernel
theorem dX8_isName_47 : decode cX8_isName 47 = .ok (.aload_n 0, 1) := by decide +kernel
theorem dX8_isName_48 : decode cX8_isName 48 = .ok (.iconst 0, 1) := by decide +kernel
theorem dX8_isName_49 : decode cX8_isName 49 = .ok (.invokevirtual 34, 3) := by decide +kernel
theorem dX8_isName_52 : decode cX8_isName 52 = .ok (.bipush 46, 2) := by decide +kernel
theorem dX8_isName_54 : decode cX8_isName 54 = .ok (.if_icmp .ne 27, 3) := by decide +kernel
theorem dX8_isName_57 : decode cX8_isName 57 = .ok (.iload_n 1, 1) := by decide +kernel
theorem dX8_isName_58 : decode cX8_isName 58 = .ok (.iconst 1, 1) := by decide +kernel
theorem dX8_isName_59 : decode cX8_isName 59 = .ok (.if_icmp .eq 18, 3) := by decide +kernel
theorem dX8_isName_62 : decode cX8_isName 62 = .ok (.iload_n 1, 1) := by decide +kernel
theorem dX8_isName_63 : decode cX8_isName 63 = .ok (.iconst 2, 1) := by decide +kernel
theorem dX8_isName_64 : decode cX8_isName 64 = .ok (.if_icmp .ne 17, 3) := by decide +kernel
theorem dX8_isName_67 : decode cX8_isName 67 = .ok (.aload_n 0, 1) := by decide +kernel
theorem dX8_isName_68 : decode cX8_isName 68 = .ok (.iconst 1, 1) := by decide +kernel
theorem dX8_isName_69 : decode cX8_isName 69 = .ok (.invokevirtual 34, 3) := by decide +kernel
theorem dX8_isName_72 : decode cX8_isName 72 = .ok (.bipush 46, 2) := by decide +kernel
theorem dX8_isName_74 : decode cX8_isName 74 = .ok (.if_icmp .ne 7, 3) := by decide +kernel
theorem dX8_isName_77 : decode cX8_isName 77 = .ok (.iconst 1, 1) := by decide +kernel
theorem dX8_isName_78 : decode cX8_isName 78 = .ok (.goto 4, 3) := by decide +kernel
theorem dX8_isName_81 : decode cX8_isName 81 = .ok (.iconst 0, 1) := by decide +kernel
theorem dX8_isName_82 : decode cX8_isName 82 = .ok (.istore_n 2, 1) := by decide +kernel
theorem dX8_isName_83 : decode cX8_isName 83 = .ok (.iload_n 2, 1) := by decide +kernel
theorem dX8_isName_84 : decode cX8_isName 84 = .ok (.ifCond .ne 7, 3) := by decide +kernel
theorem dX8_isName_87 : decode cX8_isName 87 = .ok (.iconst 1, 1) := by decide +kernel
theorem dX8_isName_88 : decode cX8_isName 88 = .ok (.goto 4, 3) := by decide +kernel
theorem dX8_isName_91 : decode cX8_isName 91 = .ok (.iconst 0, 1) := by decide +kernel
theorem dX8_isName_92 : decode cX8_isName 92 = .ok (.ireturn, 1) := by decide +kernel
theorem dX5_isNamed_0 : decode cX5_isNamed 0 = .ok (.aload_n 0, 1) := by decide +kernel
theorem dX5_isNamed_1 : decode cX5_isNamed 1 = .ok (.iload_n 1, 1) := by decide +kernel
theorem dX5_isNamed_2 : decode cX5_isNamed 2 = .ok (.invokevirtual 72, 3) := by decide +kernel
theorem dX5_isNamed_5 : decode cX5_isNamed 5 = .ok (.iload_n 3, 1) := by decide +kernel
theorem dX5_isNamed_6 : decode cX5_isNamed 6 = .ok (.if_icmp .eq 5, 3) := by decide +kernel
theorem dX5_isNamed_9 : decode cX5_isNamed 9 = .ok (.iconst 0, 1) := by decide +kernel
theorem dX5_isNamed_10 : decode cX5_isNamed 10 = .ok (.ireturn, 1) := by decide +kernel
theorem dX5_isNamed_11 : decode cX5_isNamed 11 = .ok (.iconst 0, 1) := by decide +kernel
theorem dX5_isNamed_12 : decode cX5_isNamed 12 = .ok (.istore 4, 2) := by decide +kernel
theorem dX5_isNamed_14 : decode cX5_isNamed 14 = .ok (.iload 4, 2) := by decide +kernel
theorem dX5_isNamed_16 : decode cX5_isNamed 16 = .ok (.iload_n 3, 1) := by decide +kernel
theorem dX5_isNamed_17 : decode cX5_isNamed 17 = .ok (.if_icmp .ge 27, 3) := by decide +kernel
theorem dX5_isNamed_20 : decode cX5_isNamed 20 = .ok (.aload_n 0, 1) := by decide +kernel
theorem dX5_isNamed_21 : decode cX5_isNamed 21 = .ok (.iload_n 1, 1) := by decide +kernel
theorem dX5_isNamed_22 : decode cX5_isNamed 22 = .ok (.iload 4, 2) := by decide +kernel
theorem dX5_isNamed_24 : decode cX5_isNamed 24 = .ok (.invokevirtual 75, 3) := by decide +kernel
theorem dX5_isNamed_27 : decode cX5_isNamed 27 = .ok (.aload_n 2, 1) := by decide +kernel
theorem dX5_isNamed_28 : decode cX5_isNamed 28 = .ok (.iload 4, 2) := by decide +kernel
theorem dX5_isNamed_30 : decode cX5_isNamed 30 = .ok (.invokevirtual 78, 3) := by decide +kernel
theorem dX5_isNamed_33 : decode cX5_isNamed 33 = .ok (.if_icmp .eq 5, 3) := by decide +kernel
theorem dX5_isNamed_36 : decode cX5_isNamed 36 = .ok (.iconst 0, 1) := by decide +kernel
theorem dX5_isNamed_37 : decode cX5_isNamed 37 = .ok (.ireturn, 1) := by decide +kernel
theorem dX5_isNamed_38 : decode cX5_isNamed 38 = .ok (.iinc 4 1, 3) := by decide +kernel
theorem dX5_isNamed_41 : decode cX5_isNamed 41 = .ok (.goto (-27), 3) := by decide +kernel
theorem dX5_isNamed_44 : decode cX5_isNamed 44 = .ok (.iconst 1, 1) := by decide +kernel
theorem dX5_isNamed_45 : decode cX5_isNamed 45 = .ok (.ireturn, 1) := by decide +kernel
theorem dX5_has_0 : decode cX5_has 0 = .ok (.iconst 2, 1) := by decide +kernel
theorem dX5_has_1 : decode cX5_has 1 = .ok (.istore_n 3, 1) := by decide +kernel
theorem dX5_has_2 : decode cX5_has 2 = .ok (.iload_n 3, 1) := by decide +kernel
theorem dX5_has_3 : decode cX5_has 3 = .ok (.aload_n 0, 1) := by decide +kernel
theorem dX5_has_4 : decode cX5_has 4 = .ok (.getfield 23, 3) := by decide +kernel
theorem dX5_has_7 : decode cX5_has 7 = .ok (.if_icmp .ge 29, 3) := by decide +kernel
theorem dX5_has_10 : decode cX5_has 10 = .ok (.aload_n 0, 1) := by decide +kernel
theorem dX5_has_11 : decode cX5_has 11 = .ok (.iload_n 3, 1) := by decide +kernel
theorem dX5_has_12 : decode cX5_has 12 = .ok (.invokevirtual 65, 3) := by decide +kernel
theorem dX5_has_15 : decode cX5_has 15 = .ok (.ifCond .eq 15, 3) := by decide +kernel
theorem dX5_has_18 : decode cX5_has 18 = .ok (.aload_n 0, 1) := by decide +kernel
theorem dX5_has_19 : decode cX5_has 19 = .ok (.iload_n 3, 1) := by decide +kernel
theorem dX5_has_20 : decode cX5_has 20 = .ok (.aload_n 1, 1) := by decide +kernel
theorem dX5_has_21 : decode cX5_has 21 = .ok (.iload_n 2, 1) := by decide +kernel
theorem dX5_has_22 : decode cX5_has 22 = .ok (.invokevirtual 68, 3) := by decide +kernel
theorem dX5_has_25 : decode cX5_has 25 = .ok (.ifCond .eq 5, 3) := by decide +kernel
theorem dX5_has_28 : decode cX5_has 28 = .ok (.iconst 1, 1) := by decide +kernel
theorem dX5_has_29 : decode cX5_has 29 = .ok (.ireturn, 1) := by decide +kernel
theorem dX5_has_30 : decode cX5_has 30 = .ok (.iinc 3 1, 3) := by decide +kernel
theorem dX5_has_33 : decode cX5_has 33 = .ok (.goto (-31), 3) := by decide +kernel
theorem dX5_has_36 : decode cX5_has 36 = .ok (.iconst 0, 1) := by decide +kernel
theorem dX5_has_37 : decode cX5_has 37 = .ok (.ireturn, 1) := by decide +kernel
theorem dX5_roomFor_0 : decode cX5_roomFor 0 = .ok (.iload_n 1, 1) := by decide +kernel
theorem dX5_roomFor_1 : decode cX5_roomFor 1 = .ok (.invokestatic 62, 3) := by decide +kernel
theorem dX5_roomFor_4 : decode cX5_roomFor 4 = .ok (.istore_n 2, 1) := by decide +kernel
theorem dX5_roomFor_5 : decode cX5_roomFor 5 = .ok (.iconst 0, 1) := by decide +kernel
theorem dX5_roomFor_6 : decode cX5_roomFor 6 = .ok (.istore_n 3, 1) := by decide +kernel
theorem dX5_roomFor_7 : decode cX5_roomFor 7 = .ok (.iload_n 3, 1) := by decide +kernel
theorem dX5_roomFor_8 : decode cX5_roomFor 8 = .ok (.aload_n 0, 1) := by decide +kernel
theorem dX5_roomFor_9 : decode cX5_roomFor 9 = .ok (.getfield 23, 3) := by decide +kernel
theorem dX5_roomFor_12 : decode cX5_roomFor 12 = .ok (.if_icmp .ge 26, 3) := by decide +kernel
theorem dX5_roomFor_15 : decode cX5_roomFor 15 = .ok (.aload_n 0, 1) := by decide +kernel
theorem dX5_roomFor_16 : decode cX5_roomFor 16 = .ok (.iload_n 3, 1) := by decide +kernel
theorem dX5_roomFor_17 : decode cX5_roomFor 17 = .ok (.invokevirtual 83, 3) := by decide +kernel
theorem dX5_roomFor_20 : decode cX5_roomFor 20 = .ok (.aload_n 0, 1) := by decide +kernel
theorem dX5_roomFor_21 : decode cX5_roomFor 21 = .ok (.iload_n 3, 1) := by decide +kernel
theorem dX5_roomFor_22 : decode cX5_roomFor 22 = .ok (.invokevirtual 86, 3) := by decide +kernel
theorem dX5_roomFor_25 : decode cX5_roomFor 25 = .ok (.isub, 1) := by decide +kernel
theorem dX5_roomFor_26 : decode cX5_roomFor 26 = .ok (.iload_n 2, 1) := by decide +kernel
theorem dX5_roomFor_27 : decode cX5_roomFor 27 = .ok (.if_icmp .lt 5, 3) := by decide +kernel
theorem dX5_roomFor_30 : decode cX5_roomFor 30 = .ok (.iload_n 3, 1) := by decide +kernel
theorem dX5_roomFor_31 : decode cX5_roomFor 31 = .ok (.ireturn, 1) := by decide +kernel
theorem dX5_roomFor_32 : decode cX5_roomFor 32 = .ok (.iinc 3 1, 3) := by decide +kernel
theorem dX5_roomFor_35 : decode cX5_roomFor 35 = .ok (.goto (-28), 3) := by decide +kernel
theorem dX5_roomFor_38 : decode cX5_roomFor 38 = .ok (.iconst (-1), 1) := by decide +kernel
theorem dX5_roomFor_39 : decode cX5_roomFor 39 = .ok (.ireturn, 1) := by decide +kernel
theorem dX5_split_0 : decode cX5_split 0 = .ok (.aload_n 0, 1) := by decide +kernel
theorem dX5_split_1 : decode cX5_split 1 = .ok (.iload_n 1, 1) := by decide +kernel
theorem dX5_split_2 : decode cX5_split 2 = .ok (.invokevirtual 53, 3) := by decide +kernel
theorem dX5_split_5 : decode cX5_split 5 = .ok (.istore_n 2, 1) := by decide +kernel
theorem dX5_split_6 : decode cX5_split 6 = .ok (.aload_n 0, 1) := by decide +kernel
theorem dX5_split_7 : decode cX5_split 7 = .ok (.iload_n 1, 1) := by decide +kernel
theorem dX5_split_8 : decode cX5_split 8 = .ok (.invokevirtual 86, 3) := by decide +kernel
theorem dX5_split_11 : decode cX5_split 11 = .ok (.istore_n 3, 1) := by decide +kernel
theorem dX5_split_12 : decode cX5_split 12 = .ok (.aload_n 0, 1) := by decide +kernel
theorem dX5_split_13 : decode cX5_split 13 = .ok (.iload_n 1, 1) := by decide +kernel
theorem dX5_split_14 : decode cX5_split 14 = .ok (.invokevirtual 83, 3) := by decide +kernel
theorem dX5_split_17 : decode cX5_split 17 = .ok (.istore 4, 2) := by decide +kernel
theorem dX5_split_19 : decode cX5_split 19 = .ok (.aload_n 0, 1) := by decide +kernel
theorem dX5_split_20 : decode cX5_split 20 = .ok (.getfield 15, 3) := by decide +kernel
theorem dX5_split_23 : decode cX5_split 23 = .ok (.iload_n 2, 1) := by decide +kernel
theorem dX5_split_24 : decode cX5_split 24 = .ok (.iconst 4, 1) := by decide +kernel
theorem dX5_split_25 : decode cX5_split 25 = .ok (.iadd, 1) := by decide +kernel
theorem dX5_split_26 : decode cX5_split 26 = .ok (.iload_n 3, 1) := by decide +kernel
theorem dX5_split_27 : decode cX5_split 27 = .ok (.invokevirtual 89, 3) := by decide +kernel
theorem dX5_split_30 : decode cX5_split 30 = .ok (.aload_n 0, 1) := by decide +kernel
theorem dX5_split_31 : decode cX5_split 31 = .ok (.getfield 15, 3) := by decide +kernel
theorem dX5_split_34 : decode cX5_split 34 = .ok (.iload_n 2, 1) := by decide +kernel
theorem dX5_split_35 : decode cX5_split 35 = .ok (.iload_n 3, 1) := by decide +kernel
theorem dX5_split_36 : decode cX5_split 36 = .ok (.iadd, 1) := by decide +kernel
theorem dX5_split_37 : decode cX5_split 37 = .ok (.iconst 4, 1) := by decide +kernel
theorem dX5_split_38 : decode cX5_split 38 = .ok (.iadd, 1) := by decide +kernel
theorem dX5_split_39 : decode cX5_split 39 = .ok (.iload 4, 2) := by decide +kernel
theorem dX5_split_41 : decode cX5_split 41 = .ok (.iload_n 3, 1) := by decide +kernel
theorem dX5_split_42 : decode cX5_split 42 = .ok (.isub, 1) := by decide +kernel
theorem dX5_split_43 : decode cX5_split 43 = .ok (.invokevirtual 89, 3) := by decide +kernel
theorem dX5_split_46 : decode cX5_split 46 = .ok (.iload_n 2, 1) := by decide +kernel
theorem dX5_split_47 : decode cX5_split 47 = .ok (.iload_n 3, 1) := by decide +kernel
theorem dX5_split_48 : decode cX5_split 48 = .ok (.iadd, 1) := by decide +kernel
theorem dX5_split_49 : decode cX5_split 49 = .ok (.ireturn, 1) := by decide +kernel
theorem dX5_fillEntry_0 : decode cX5_fillEntry 0 = .ok (.aload_n 0, 1) := by decide +kernel
theorem dX5_fillEntry_1 : decode cX5_fillEntry 1 = .ok (.getfield 15, 3) := by decide +kernel
theorem dX5_fillEntry_4 : decode cX5_fillEntry 4 = .ok (.iload_n 1, 1) := by decide +kernel
theorem dX5_fillEntry_5 : decode cX5_fillEntry 5 = .ok (.iconst 4, 1) := by decide +kernel
theorem dX5_fillEntry_6 : decode cX5_fillEntry 6 = .ok (.iadd, 1) := by decide +kernel
theorem dX5_fillEntry_7 : decode cX5_fillEntry 7 = .ok (.invokevirtual 45, 3) := by decide +kernel
theorem dX5_fillEntry_10 : decode cX5_fillEntry 10 = .ok (.istore 6, 2) := by decide +kernel
theorem dX5_fillEntry_12 : decode cX5_fillEntry 12 = .ok (.aload_n 0, 1) := by decide +kernel
theorem dX5_fillEntry_13 : decode cX5_fillEntry 13 = .ok (.getfield 15, 3) := by decide +kernel
theorem dX5_fillEntry_16 : decode cX5_fillEntry 16 = .ok (.iload_n 1, 1) := by decide +kernel
theorem dX5_fillEntry_17 : decode cX5_fillEntry 17 = .ok (.iload_n 1, 1) := by decide +kernel
theorem dX5_fillEntry_18 : decode cX5_fillEntry 18 = .ok (.iload 5, 2) := by decide +kernel
theorem dX5_fillEntry_20 : decode cX5_fillEntry 20 = .ok (.invokestatic 62, 3) := by decide +kernel
theorem dX5_fillEntry_23 : decode cX5_fillEntry 23 = .ok (.iadd, 1) := by decide +kernel
theorem dX5_fillEntry_24 : decode cX5_fillEntry 24 = .ok (.iconst 0, 1) := by decide +kernel
theorem dX5_fillEntry_25 : decode cX5_fillEntry 25 = .ok (.invokevirtual 99, 3) := by decide +kernel
theorem dX5_fillEntry_28 : decode cX5_fillEntry 28 = .ok (.aload_n 0, 1) := by decide +kernel
theorem dX5_fillEntry_29 : decode cX5_fillEntry 29 = .ok (.getfield 15, 3) := by decide +kernel
theorem dX5_fillEntry_32 : decode cX5_fillEntry 32 = .ok (.iload_n 1, 1) := by decide +kernel
theorem dX5_fillEntry_33 : decode cX5_fillEntry 33 = .ok (.iload_n 2, 1) := by decide +kernel
theorem dX5_fillEntry_34 : decode cX5_fillEntry 34 = .ok (.invokevirtual 93, 3) := by decide +kernel
theorem dX5_fillEntry_37 : decode cX5_fillEntry 37 = .ok (.aload_n 0, 1) := by decide +kernel
theorem dX5_fillEntry_38 : decode cX5_fillEntry 38 = .ok (.getfield 15, 3) := by decide +kernel
theorem dX5_fillEntry_41 : decode cX5_fillEntry 41 = .ok (.iload_n 1, 1) := by decide +kernel
theorem dX5_fillEntry_42 : decode cX5_fillEntry 42 = .ok (.iconst 4, 1) := by decide +kernel
theorem dX5_fillEntry_43 : decode cX5_fillEntry 43 = .ok (.iadd, 1) := by decide +kernel
theorem dX5_fillEntry_44 : decode cX5_fillEntry 44 = .ok (.iload 6, 2) := by decide +kernel
theorem dX5_fillEntry_46 : decode cX5_fillEntry 46 = .ok (.invokevirtual 89, 3) := by decide +kernel
theorem dX5_fillEntry_49 : decode cX5_fillEntry 49 = .ok (.aload_n 0, 1) := by decide +kernel
theorem dX5_fillEntry_50 : decode cX5_fillEntry 50 = .ok (.getfield 15, 3) := by decide +kernel
theorem dX5_fillEntry_53 : decode cX5_fillEntry 53 = .ok (.iload_n 1, 1) := by decide +kernel
theorem dX5_fillEntry_54 : decode cX5_fillEntry 54 = .ok (.bipush 6, 2) := by decide +kernel
theorem dX5_fillEntry_56 : decode cX5_fillEntry 56 = .ok (.iadd, 1) := by decide +kernel
theorem dX5_fillEntry_57 : decode cX5_fillEntry 57 = .ok (.iload 5, 2) := by decide +kernel
theorem dX5_fillEntry_59 : decode cX5_fillEntry 59 = .ok (.invokevirtual 96, 3) := by decide +kernel
theorem dX5_fillEntry_62 : decode cX5_fillEntry 62 = .ok (.aload_n 0, 1) := by decide +kernel
theorem dX5_fillEntry_63 : decode cX5_fillEntry 63 = .ok (.getfield 15, 3) := by decide +kernel
theorem dX5_fillEntry_66 : decode cX5_fillEntry 66 = .ok (.iload_n 1, 1) := by decide +kernel
theorem dX5_fillEntry_67 : decode cX5_fillEntry 67 = .ok (.bipush 7, 2) := by decide +kernel
theorem dX5_fillEntry_69 : decode cX5_fillEntry 69 = .ok (.iadd, 1) := by decide +kernel
theorem dX5_fillEntry_70 : decode cX5_fillEntry 70 = .ok (.iload_n 3, 1) := by decide +kernel
theorem dX5_fillEntry_71 : decode cX5_fillEntry 71 = .ok (.ifCond .eq 7, 3) := by decide +kernel
theorem dX5_fillEntry_74 : decode cX5_fillEntry 74 = .ok (.iconst 2, 1) := by decide +kernel
theorem dX5_fillEntry_75 : decode cX5_fillEntry 75 = .ok (.goto 4, 3) := by decide +kernel
theorem dX5_fillEntry_78 : decode cX5_fillEntry 78 = .ok (.iconst 1, 1) := by decide +kernel
theorem dX5_fillEntry_79 : decode cX5_fillEntry 79 = .ok (.invokevirtual 96, 3) := by decide +kernel
theorem dX5_fillEntry_82 : decode cX5_fillEntry 82 = .ok (.iconst 0, 1) := by decide +kernel
theorem dX5_fillEntry_83 : decode cX5_fillEntry 83 = .ok (.istore 7, 2) := by decide +kernel
theorem dX5_fillEntry_85 : decode cX5_fillEntry 85 = .ok (.iload 7, 2) := by decide +kernel
theorem dX5_fillEntry_87 : decode cX5_fillEntry 87 = .ok (.iload 5, 2) := by decide +kernel
theorem dX5_fillEntry_89 : decode cX5_fillEntry 89 = .ok (.if_icmp .ge 30, 3) := by decide +kernel
theorem dX5_fillEntry_92 : decode cX5_fillEntry 92 = .ok (.aload_n 0, 1) := by decide +kernel
theorem dX5_fillEntry_93 : decode cX5_fillEntry 93 = .ok (.getfield 15, 3) := by decide +kernel
theorem dX5_fillEntry_96 : decode cX5_fillEntry 96 = .ok (.iload_n 1, 1) := by decide +kernel
theorem dX5_fillEntry_97 : decode cX5_fillEntry 97 = .ok (.bipush 8, 2) := by decide +kernel
theorem dX5_fillEntry_99 : decode cX5_fillEntry 99 = .ok (.iadd, 1) := by decide +kernel
theorem dX5_fillEntry_100 : decode cX5_fillEntry 100 = .ok (.iload 7, 2) := by decide +kernel
theorem dX5_fillEntry_102 : decode cX5_fillEntry 102 = .ok (.iadd, 1) := by decide +kernel
theorem dX5_fillEntry_103 : decode cX5_fillEntry 103 = .ok (.aload 4, 2) := by decide +kernel
theorem dX5_fillEntry_105 : decode cX5_fillEntry 105 = .ok (.iload 7, 2) := by decide +kernel
theorem dX5_fillEntry_107 : decode cX5_fillEntry 107 = .ok (.invokevirtual 78, 3) := by decide +kernel
theorem dX5_fillEntry_110 : decode cX5_fillEntry 110 = .ok (.invokevirtual 96, 3) := by decide +kernel
theorem dX5_fillEntry_113 : decode cX5_fillEntry 113 = .ok (.iinc 7 1, 3) := by decide +kernel
theorem dX5_fillEntry_116 : decode cX5_fillEntry 116 = .ok (.goto (-31), 3) := by decide +kernel
theorem dX5_fillEntry_119 : decode cX5_fillEntry 119 = .ok (.return_, 1) := by decide +kernel
theorem dX5_numberOf_0 : decode cX5_numberOf 0 = .ok (.iconst 0, 1) := by decide +kernel
theorem dX5_numberOf_1 : decode cX5_numberOf 1 = .ok (.istore_n 2, 1) := by decide +kernel
theorem dX5_numberOf_2 : decode cX5_numberOf 2 = .ok (.iconst 2, 1) := by decide +kernel
theorem dX5_numberOf_3 : decode cX5_numberOf 3 = .ok (.istore_n 3, 1) := by decide +kernel
theorem dX5_numberOf_4 : decode cX5_numberOf 4 = .ok (.iload_n 3, 1) := by decide +kernel
theorem dX5_numberOf_5 : decode cX5_numberOf 5 = .ok (.aload_n 0, 1) := by decide +kernel
theorem dX5_numberOf_6 : decode cX5_numberOf 6 = .ok (.getfield 23, 3) := by decide +kernel
theorem dX5_numberOf_9 : decode cX5_numberOf 9 = .ok (.if_icmp .ge 31, 3) := by decide +kernel
theorem dX5_numberOf_12 : decode cX5_numberOf 12 = .ok (.aload_n 0, 1) := by decide +kernel
theorem dX5_numberOf_13 : decode cX5_numberOf 13 = .ok (.iload_n 3, 1) := by decide +kernel
theorem dX5_numberOf_14 : decode cX5_numberOf 14 = .ok (.invokevirtual 53, 3) := by decide +kernel
theorem dX5_numberOf_17 : decode cX5_numberOf 17 = .ok (.iload_n 1, 1) := by decide +kernel
theorem dX5_numberOf_18 : decode cX5_numberOf 18 = .ok (.if_icmp .ne 5, 3) := by decide +kernel
theorem dX5_numberOf_21 : decode cX5_numberOf 21 = .ok (.iload_n 2, 1) := by decide +kernel
theorem dX5_numberOf_22 : decode cX5_numberOf 22 = .ok (.ireturn, 1) := by decide +kernel
theorem dX5_numberOf_23 : decode cX5_numberOf 23 = .ok (.aload_n 0, 1) := by decide +kernel
theorem dX5_numberOf_24 : decode cX5_numberOf 24 = .ok (.iload_n 3, 1) := by decide +kernel
theorem dX5_numberOf_25 : decode cX5_numberOf 25 = .ok (.invokevirtual 65, 3) := by decide +kernel
theorem dX5_numberOf_28 : decode cX5_numberOf 28 = .ok (.ifCond .eq 6, 3) := by decide +kernel
theorem dX5_numberOf_31 : decode cX5_numberOf 31 = .ok (.iinc 2 1, 3) := by decide +kernel
theorem dX5_numberOf_34 : decode cX5_numberOf 34 = .ok (.iinc 3 1, 3) := by decide +kernel
theorem dX5_numberOf_37 : decode cX5_numberOf 37 = .ok (.goto (-33), 3) := by decide +kernel
theorem dX5_numberOf_40 : decode cX5_numberOf 40 = .ok (.iconst (-1), 1) := by decide +kernel
theorem dX5_numberOf_41 : decode cX5_numberOf 41 = .ok (.ireturn, 1) := by decide +kernel
theorem dX4_addLinks_0 : decode cX4_addLinks 0 = .ok (.aload_n 0, 1) := by decide +kernel
theorem dX4_addLinks_1 : decode cX4_addLinks 1 = .ok (.getfield 15, 3) := by decide +kernel
theorem dX4_addLinks_4 : decode cX4_addLinks 4 = .ok (.iload_n 1, 1) := by decide +kernel
theorem dX4_addLinks_5 : decode cX4_addLinks 5 = .ok (.invokevirtual 23, 3) := by decide +kernel
theorem dX4_addLinks_8 : decode cX4_addLinks 8 = .ok (.bipush 26, 2) := by decide +kernel
theorem dX4_addLinks_10 : decode cX4_addLinks 10 = .ok (.iadd, 1) := by decide +kernel
theorem dX4_addLinks_11 : decode cX4_addLinks 11 = .ok (.istore_n 3, 1) := by decide +kernel
theorem dX4_addLinks_12 : decode cX4_addLinks 12 = .ok (.aload_n 0, 1) := by decide +kernel
theorem dX4_addLinks_13 : decode cX4_addLinks 13 = .ok (.getfield 9, 3) := by decide +kernel
theorem dX4_addLinks_16 : decode cX4_addLinks 16 = .ok (.iload_n 3, 1) := by decide +kernel
theorem dX4_addLinks_17 : decode cX4_addLinks 17 = .ok (.aload_n 0, 1) := by decide +kernel
theorem dX4_addLinks_18 : decode cX4_addLinks 18 = .ok (.getfield 9, 3) := by decide +kernel
theorem dX4_addLinks_21 : decode cX4_addLinks 21 = .ok (.iload_n 3, 1) := by decide +kernel
theorem dX4_addLinks_22 : decode cX4_addLinks 22 = .ok (.invokevirtual 29, 3) := by decide +kernel
theorem dX4_addLinks_25 : decode cX4_addLinks 25 = .ok (.iload_n 2, 1) := by decide +kernel
theorem dX4_addLinks_26 : decode cX4_addLinks 26 = .ok (.iadd, 1) := by decide +kernel
theorem dX4_addLinks_27 : decode cX4_addLinks 27 = .ok (.invokevirtual 41, 3) := by decide +kernel
theorem dX4_addLinks_30 : decode cX4_addLinks 30 = .ok (.return_, 1) := by decide +kernel
theorem dX5_open_0 : decode cX5_open 0 = .ok (.aload_n 0, 1) := by decide +kernel
theorem dX5_open_1 : decode cX5_open 1 = .ok (.getfield 15, 3) := by decide +kernel
theorem dX5_open_4 : decode cX5_open 4 = .ok (.iload_n 1, 1) := by decide +kernel
theorem dX5_open_5 : decode cX5_open 5 = .ok (.sipush 1024, 3) := by decide +kernel
theorem dX5_open_8 : decode cX5_open 8 = .ok (.imul, 1) := by decide +kernel
theorem dX5_open_9 : decode cX5_open 9 = .ok (.iconst 4, 1) := by decide +kernel
theorem dX5_open_10 : decode cX5_open 10 = .ok (.iadd, 1) := by decide +kernel
theorem dX5_open_11 : decode cX5_open 11 = .ok (.sipush 1024, 3) := by decide +kernel
theorem dX5_open_14 : decode cX5_open 14 = .ok (.invokevirtual 89, 3) := by decide +kernel
theorem dX5_open_17 : decode cX5_open 17 = .ok (.iload_n 1, 1) := by decide +kernel
theorem dX5_open_18 : decode cX5_open 18 = .ok (.sipush 1024, 3) := by decide +kernel
theorem dX5_open_21 : decode cX5_open 21 = .ok (.imul, 1) := by decide +kernel
theorem dX5_open_22 : decode cX5_open 22 = .ok (.ireturn, 1) := by decide +kernel
theorem dX4_costOf_0 : decode cX4_costOf 0 = .ok (.aload_n 0, 1) := by decide +kernel
theorem dX4_costOf_1 : decode cX4_costOf 1 = .ok (.iload_n 1, 1) := by decide +kernel
theorem dX4_costOf_2 : decode cX4_costOf 2 = .ok (.invokevirtual 65, 3) := by decide +kernel
theorem dX4_costOf_5 : decode cX4_costOf 5 = .ok (.istore_n 3, 1) := by decide +kernel
theorem dX4_costOf_6 : decode cX4_costOf 6 = .ok (.iload_n 3, 1) := by decide +kernel
theorem dX4_costOf_7 : decode cX4_costOf 7 = .ok (.iload_n 2, 1) := by decide +kernel
theorem dX4_costOf_8 : decode cX4_costOf 8 = .ok (.iadd, 1) := by decide +kernel
theorem dX4_costOf_9 : decode cX4_costOf 9 = .ok (.invokestatic 68, 3) := by decide +kernel
theorem dX4_costOf_12 : decode cX4_costOf 12 = .ok (.invokestatic 71, 3) := by decide +kernel
theorem dX4_costOf_15 : decode cX4_costOf 15 = .ok (.iload_n 3, 1) := by decide +kernel
theorem dX4_costOf_16 : decode cX4_costOf 16 = .ok (.invokestatic 68, 3) := by decide +kernel
theorem dX4_costOf_19 : decode cX4_costOf 19 = .ok (.invokestatic 71, 3) := by decide +kernel
theorem dX4_costOf_22 : decode cX4_costOf 22 = .ok (.isub, 1) := by decide +kernel
theorem dX4_costOf_23 : decode cX4_costOf 23 = .ok (.ireturn, 1) := by decide +kernel
theorem dX0_make_0 : decode cX0_make 0 = .ok (.aload_n 0, 1) := by decide +kernel
theorem dX0_make_1 : decode cX0_make 1 = .ok (.getfield 85, 3) := by decide +kernel
theorem dX0_make_4 : decode cX0_make 4 = .ok (.invokevirtual 206, 3) := by decide +kernel
theorem dX0_make_7 : decode cX0_make 7 = .ok (.istore_n 2, 1) := by decide +kernel
theorem dX0_make_8 : decode cX0_make 8 = .ok (.aload_n 0, 1) := by decide +kernel
theorem dX0_make_9 : decode cX0_make 9 = .ok (.invokevirtual 165, 3) := by decide +kernel
theorem dX0_make_12 : decode cX0_make 12 = .ok (.aload_n 0, 1) := by decide +kernel
theorem dX0_make_13 : decode cX0_make 13 = .ok (.getfield 60, 3) := by decide +kernel
theorem dX0_make_16 : decode cX0_make 16 = .ok (.aload_n 0, 1) := by decide +kernel
theorem dX0_make_17 : decode cX0_make 17 = .ok (.getfield 89, 3) := by decide +kernel
theorem dX0_make_20 : decode cX0_make 20 = .ok (.invokevirtual 168, 3) := by decide +kernel
theorem dX0_make_23 : decode cX0_make 23 = .ok (.aload_n 0, 1) := by decide +kernel
theorem dX0_make_24 : decode cX0_make 24 = .ok (.getfield 85, 3) := by decide +kernel
theorem dX0_make_27 : decode cX0_make 27 = .ok (.iload_n 2, 1) := by decide +kernel
theorem dX0_make_28 : decode cX0_make 28 = .ok (.invokevirtual 209, 3) := by decide +kernel
theorem dX0_make_31 : decode cX0_make 31 = .ok (.ifCond .eq 18, 3) := by decide +kernel
theorem dX0_make_34 : decode cX0_make 34 = .ok (.aload_n 0, 1) := by decide +kernel
theorem dX0_make_35 : decode cX0_make 35 = .ok (.getfield 60, 3) := by decide +kernel
theorem dX0_make_38 : decode cX0_make 38 = .ok (.aload_n 0, 1) := by decide +kernel
theorem dX0_make_39 : decode cX0_make 39 = .ok (.getfield 85, 3) := by decide +kernel
theorem dX0_make_42 : decode cX0_make 42 = .ok (.iload_n 2, 1) := by decide +kernel
theorem dX0_make_43 : decode cX0_make 43 = .ok (.invokevirtual 212, 3) := by decide +kernel
theorem dX0_make_46 : decode cX0_make 46 = .ok (.ifCond .eq 13, 3) := by decide +kernel
theorem dX0_make_49 : decode cX0_make 49 = .ok (.new 105, 3) := by decide +kernel
theorem dX0_make_52 : decode cX0_make 52 = .ok (.dup, 1) := by decide +kernel
theorem dX0_make_53 : decode cX0_make 53 = .ok (.ldc 216, 2) := by decide +kernel
theorem dX0_make_55 : decode cX0_make 55 = .ok (.invokespecial 109, 3) := by decide +kernel
theorem dX0_make_58 : decode cX0_make 58 = .ok (.athrow, 1) := by decide +kernel
theorem dX0_make_59 : decode cX0_make 59 = .ok (.aload_n 0, 1) := by decide +kernel
theorem dX0_make_60 : decode cX0_make 60 = .ok (.getfield 60, 3) := by decide +kernel
theorem dX0_make_63 : decode cX0_make 63 = .ok (.iload_n 2, 1) := by decide +kernel
theorem dX0_make_64 : decode cX0_make 64 = .ok (.invokevirtual 218, 3) := by decide +kernel
theorem dX0_make_67 : decode cX0_make 67 = .ok (.istore_n 3, 1) := by decide +kernel
theorem dX0_make_68 : decode cX0_make 68 = .ok (.iload_n 1, 1) := by decide +kernel
theorem dX0_make_69 : decode cX0_make 69 = .ok (.ifCond .eq 7, 3) := by decide +kernel
theorem dX0_make_72 : decode cX0_make 72 = .ok (.iconst 1, 1) := by decide +kernel
theorem dX0_make_73 : decode cX0_make 73 = .ok (.goto 4, 3) := by decide +kernel
theorem dX0_make_76 : decode cX0_make 76 = .ok (.iconst 0, 1) := by decide +kernel
theorem dX0_make_77 : decode cX0_make 77 = .ok (.istore 4, 2) := by decide +kernel
theorem dX0_make_79 : decode cX0_make 79 = .ok (.iload_n 3, 1) := by decide +kernel
theorem dX0_make_80 : decode cX0_make 80 = .ok (.iconst (-1), 1) := by decide +kernel
theorem dX0_make_81 : decode cX0_make 81 = .ok (.if_icmp .ne 22, 3) := by decide +kernel
theorem dX0_make_84 : decode cX0_make 84 = .ok (.iload 4, 2) := by decide +kernel
theorem dX0_make_86 : decode cX0_make 86 = .ok (.aload_n 0, 1) := by decide +kernel
theorem dX0_make_87 : decode cX0_make 87 = .ok (.getfield 51, 3) := by decide +kernel
theorem dX0_make_90 : decode cX0_make 90 = .ok (.aload_n 0, 1) := by decide +kernel
theorem dX0_make_91 : decode cX0_make 91 = .ok (.getfield 89, 3) := by decide +kernel
theorem dX0_make_94 : decode cX0_make 94 = .ok (.sipush 1024, 3) := by decide +kernel
theorem dX0_make_97 : decode cX0_make 97 = .ok (.invokevirtual 221, 3) := by decide +kernel
theorem dX0_make_100 : decode cX0_make 100 = .ok (.iadd, 1) := by decide +kernel
theorem dX0_make_101 : decode cX0_make 101 = .ok (.istore 4, 2) := by decide +kernel
theorem dX0_make_103 : decode cX0_make 103 = .ok (.aload_n 0, 1) := by decide +kernel
theorem dX0_make_104 : decode cX0_make 104 = .ok (.getfield 43, 3) := by decide +kernel
theorem dX0_make_107 : decode cX0_make 107 = .ok (.invokevirtual 146, 3) := by decide +kernel
theorem dX0_make_110 : decode cX0_make 110 = .ok (.iconst 1, 1) := by decide +kernel
theorem dX0_make_111 : decode cX0_make 111 = .ok (.if_icmp .lt 15, 3) := by decide +kernel
theorem dX0_make_114 : decode cX0_make 114 = .ok (.aload_n 0, 1) := by decide +kernel
theorem dX0_make_115 : decode cX0_make 115 = .ok (.getfield 39, 3) := by decide +kernel
theorem dX0_make_118 : decode cX0_make 118 = .ok (.invokevirtual 146, 3) := by decide +kernel
theorem dX0_make_121 : decode cX0_make 121 = .ok (.iload 4, 2) := by decide +kernel
theorem dX0_make_123 : decode cX0_make 123 = .ok (.if_icmp .ge 13, 3) := by decide +kernel
theorem dX0_make_126 : decode cX0_make 126 = .ok (.new 224, 3) := by decide +kernel
theorem dX0_make_129 : decode cX0_make 129 = .ok (.dup, 1) := by decide +kernel
theorem dX0_make_130 : decode cX0_make 130 = .ok (.ldc 226, 2) := by decide +kernel
theorem dX0_make_132 : decode cX0_make 132 = .ok (.invokespecial 228, 3) := by decide +kernel
theorem dX0_make_135 : decode cX0_make 135 = .ok (.athrow, 1) := by decide +kernel
theorem dX0_make_136 : decode cX0_make 136 = .ok (.aload_n 0, 1) := by decide +kernel
theorem dX0_make_137 : decode cX0_make 137 = .ok (.getfield 43, 3) := by decide +kernel
theorem dX0_make_140 : decode cX0_make 140 = .ok (.invokevirtual 126, 3) := by decide +kernel
theorem dX0_make_143 : decode cX0_make 143 = .ok (.istore 5, 2) := by decide +kernel
theorem dX0_make_145 : decode cX0_make 145 = .ok (.iload_n 3, 1) := by decide +kernel
theorem dX0_make_146 : decode cX0_make 146 = .ok (.iconst (-1), 1) := by decide +kernel
theorem dX0_make_147 : decode cX0_make 147 = .ok (.if_icmp .ne 24, 3) := by decide +kernel
theorem dX0_make_150 : decode cX0_make 150 = .ok (.aload_n 0, 1) := by decide +kernel
theorem dX0_make_151 : decode cX0_make 151 = .ok (.getfield 60, 3) := by decide +kernel
theorem dX0_make_154 : decode cX0_make 154 = .ok (.aload_n 0, 1) := by decide +kernel
theorem dX0_make_155 : decode cX0_make 155 = .ok (.getfield 51, 3) := by decide +kernel
theorem dX0_make_158 : decode cX0_make 158 = .ok (.aload_n 0, 1) := by decide +kernel
theorem dX0_make_159 : decode cX0_make 159 = .ok (.getfield 89, 3) := by decide +kernel
theorem dX0_make_162 : decode cX0_make 162 = .ok (.invokevirtual 136, 3) := by decide +kernel
theorem dX0_make_165 : decode cX0_make 165 = .ok (.invokevirtual 229, 3) := by decide +kernel
theorem dX0_make_168 : decode cX0_make 168 = .ok (.goto 11, 3) := by decide +kernel
theorem dX0_make_171 : decode cX0_make 171 = .ok (.aload_n 0, 1) := by decide +kernel
theorem dX0_make_172 : decode cX0_make 172 = .ok (.getfield 60, 3) := by decide +kernel
theorem dX0_make_175 : decode cX0_make 175 = .ok (.iload_n 3, 1) := by decide +kernel
theorem dX0_make_176 : decode cX0_make 176 = .ok (.invokevirtual 232, 3) := by decide +kernel
theorem dX0_make_179 : decode cX0_make 179 = .ok (.istore 6, 2) := by decide +kernel
theorem dX0_make_181 : decode cX0_make 181 = .ok (.aload_n 0, 1) := by decide +kernel
theorem dX0_make_182 : decode cX0_make 182 = .ok (.getfield 60, 3) := by decide +kernel
theorem dX0_make_185 : decode cX0_make 185 = .ok (.iload 6, 2) := by decide +kernel
theorem dX0_make_187 : decode cX0_make 187 = .ok (.iload 5, 2) := by decide +kernel
theorem dX0_make_189 : decode cX0_make 189 = .ok (.iload_n 1, 1) := by decide +kernel
theorem dX0_make_190 : decode cX0_make 190 = .ok (.aload_n 0, 1) := by decide +kernel
theorem dX0_make_191 : decode cX0_make 191 = .ok (.getfield 85, 3) := by decide +kernel
theorem dX0_make_194 : decode cX0_make 194 = .ok (.iload_n 2, 1) := by decide +kernel
theorem dX0_make_195 : decode cX0_make 195 = .ok (.invokevirtual 235, 3) := by decide +kernel
theorem dX0_make_198 : decode cX0_make 198 = .ok (.aload_n 0, 1) := by decide +kernel
theorem dX0_make_199 : decode cX0_make 199 = .ok (.getfield 51, 3) := by decide +kernel
theorem dX0_make_202 : decode cX0_make 202 = .ok (.iload 5, 2) := by decide +kernel
theorem dX0_make_204 : decode cX0_make 204 = .ok (.iload_n 1, 1) := by decide +kernel
theorem dX0_make_205 : decode cX0_make 205 = .ok (.invokevirtual 129, 3) := by decide +kernel
theorem dX0_make_208 : decode cX0_make 208 = .ok (.iload_n 1, 1) := by decide +kernel
theorem dX0_make_209 : decode cX0_make 209 = .ok (.ifCond .eq 47, 3) := by decide +kernel
theorem dX0_make_212 : decode cX0_make 212 = .ok (.aload_n 0, 1) := by decide +kernel
theorem dX0_make_213 : decode cX0_make 213 = .ok (.getfield 51, 3) := by decide +kernel
theorem dX0_make_216 : decode cX0_make 216 = .ok (.iload 5, 2) := by decide +kernel
theorem dX0_make_218 : decode cX0_make 218 = .ok (.iconst 1, 1) := by decide +kernel
theorem dX0_make_219 : decode cX0_make 219 = .ok (.invokevirtual 133, 3) := by decide +kernel
theorem dX0_make_222 : decode cX0_make 222 = .ok (.aload_n 0, 1) := by decide +kernel
theorem dX0_make_223 : decode cX0_make 223 = .ok (.getfield 51, 3) := by decide +kernel
theorem dX0_make_226 : decode cX0_make 226 = .ok (.aload_n 0, 1) := by decide +kernel
theorem dX0_make_227 : decode cX0_make 227 = .ok (.getfield 89, 3) := by decide +kernel
theorem dX0_make_230 : decode cX0_make 230 = .ok (.iconst 1, 1) := by decide +kernel
theorem dX0_make_231 : decode cX0_make 231 = .ok (.invokevirtual 239, 3) := by decide +kernel
theorem dX0_make_234 : decode cX0_make 234 = .ok (.aload_n 0, 1) := by decide +kernel
theorem dX0_make_235 : decode cX0_make 235 = .ok (.getfield 60, 3) := by decide +kernel
theorem dX0_make_238 : decode cX0_make 238 = .ok (.aload_n 0, 1) := by decide +kernel
theorem dX0_make_239 : decode cX0_make 239 = .ok (.getfield 51, 3) := by decide +kernel
theorem dX0_make_242 : decode cX0_make 242 = .ok (.iload 5, 2) := by decide +kernel
theorem dX0_make_244 : decode cX0_make 244 = .ok (.invokevirtual 136, 3) := by decide +kernel
theorem dX0_make_247 : decode cX0_make 247 = .ok (.iload 5, 2) := by decide +kernel
theorem dX0_make_249 : decode cX0_make 249 = .ok (.aload_n 0, 1) := by decide +kernel
theorem dX0_make_250 : decode cX0_make 250 = .ok (.getfield 89, 3) := by decide +kernel
theorem dX0_make_253 : decode cX0_make 253 = .ok (.invokevirtual 139, 3) := by decide +kernel
theorem dX0_make_256 : decode cX0_make 256 = .ok (.aload_n 0, 1) := by decide +kernel
theorem dX0_make_257 : decode cX0_make 257 = .ok (.getfield 60, 3) := by decide +kernel
theorem dX0_make_260 : decode cX0_make 260 = .ok (.aload_n 0, 1) := by decide +kernel
theorem dX0_make_261 : decode cX0_make 261 = .ok (.getfield 89, 3) := by decide +kernel
theorem dX0_make_264 : decode cX0_make 264 = .ok (.invokevirtual 168, 3) := by decide +kernel
theorem dX0_make_267 : decode cX0_make 267 = .ok (.aload_n 0, 1) := by decide +kernel
theorem dX0_make_268 : decode cX0_make 268 = .ok (.getfield 60, 3) := by decide +kernel
theorem dX0_make_271 : decode cX0_make 271 = .ok (.iload 6, 2) := by decide +kernel
theorem dX0_make_273 : decode cX0_make 273 = .ok (.invokevirtual 242, 3) := by decide +kernel
theorem dX0_make_276 : decode cX0_make 276 = .ok (.ireturn, 1) := by decide +kernel
theorem dX0_fileAt_0 : decode cX0_fileAt 0 = .ok (.aload_n 0, 1) := by decide +kernel
theorem dX0_fileAt_1 : decode cX0_fileAt 1 = .ok (.getfield 60, 3) := by decide +kernel
theorem dX0_fileAt_4 : decode cX0_fileAt 4 = .ok (.iload_n 1, 1) := by decide +kernel
theorem dX0_fileAt_5 : decode cX0_fileAt 5 = .ok (.invokevirtual 180, 3) := by decide +kernel
theorem dX0_fileAt_8 : decode cX0_fileAt 8 = .ok (.istore_n 2, 1) := by decide +kernel
theorem dX0_fileAt_9 : decode cX0_fileAt 9 = .ok (.aload_n 0, 1) := by decide +kernel
theorem dX0_fileAt_10 : decode cX0_fileAt 10 = .ok (.getfield 51, 3) := by decide +kernel
theorem dX0_fileAt_13 : decode cX0_fileAt 13 = .ok (.iload_n 2, 1) := by decide +kernel
theorem dX0_fileAt_14 : decode cX0_fileAt 14 = .ok (.invokevirtual 183, 3) := by decide +kernel
theorem dX0_fileAt_17 : decode cX0_fileAt 17 = .ok (.ifCond .eq 14, 3) := by decide +kernel
theorem dX0_fileAt_20 : decode cX0_fileAt 20 = .ok (.new 105, 3) := by decide +kernel
theorem dX0_fileAt_23 : decode cX0_fileAt 23 = .ok (.dup, 1) := by decide +kernel
theorem dX0_fileAt_24 : decode cX0_fileAt 24 = .ok (.ldc_w 296, 3) := by decide +kernel
theorem dX0_fileAt_27 : decode cX0_fileAt 27 = .ok (.invokespecial 109, 3) := by decide +kernel
theorem dX0_fileAt_30 : decode cX0_fileAt 30 = .ok (.athrow, 1) := by decide +kernel
theorem dX0_fileAt_31 : decode cX0_fileAt 31 = .ok (.iload_n 2, 1) := by decide +kernel
theorem dX0_fileAt_32 : decode cX0_fileAt 32 = .ok (.ireturn, 1) := by decide +kernel
theorem dX0_needBlocks_0 : decode cX0_needBlocks 0 = .ok (.aload_n 0, 1) := by decide +kernel
theorem dX0_needBlocks_1 : decode cX0_needBlocks 1 = .ok (.getfield 39, 3) := by decide +kernel
theorem dX0_needBlocks_4 : decode cX0_needBlocks 4 = .ok (.invokevirtual 146, 3) := by decide +kernel
theorem dX0_needBlocks_7 : decode cX0_needBlocks 7 = .ok (.iload_n 1, 1) := by decide +kernel
theorem dX0_needBlocks_8 : decode cX0_needBlocks 8 = .ok (.if_icmp .ge 14, 3) := by decide +kernel
theorem dX0_needBlocks_11 : decode cX0_needBlocks 11 = .ok (.new 224, 3) := by decide +kernel
theorem dX0_needBlocks_14 : decode cX0_needBlocks 14 = .ok (.dup, 1) := by decide +kernel
theorem dX0_needBlocks_15 : decode cX0_needBlocks 15 = .ok (.ldc_w 298, 3) := by decide +kernel
theorem dX0_needBlocks_18 : decode cX0_needBlocks 18 = .ok (.invokespecial 228, 3) := by decide +kernel
theorem dX0_needBlocks_21 : decode cX0_needBlocks 21 = .ok (.athrow, 1) := by decide +kernel
theorem dX0_needBlocks_22 : decode cX0_needBlocks 22 = .ok (.return_, 1) := by decide +kernel
theorem dX4_append_0 : decode cX4_append 0 = .ok (.aload_n 0, 1) := by decide +kernel
theorem dX4_append_1 : decode cX4_append 1 = .ok (.iload_n 1, 1) := by decide +kernel
theorem dX4_append_2 : decode cX4_append 2 = .ok (.invokevirtual 65, 3) := by decide +kernel
theorem dX4_append_5 : decode cX4_append 5 = .ok (.istore 4, 2) := by decide +kernel
theorem dX4_append_7 : decode cX4_append 7 = .ok (.iload 4, 2) := by decide +kernel
theorem dX4_append_9 : decode cX4_append 9 = .ok (.iload_n 3, 1) := by decide +kernel
theorem dX4_append_10 : decode cX4_append 10 = .ok (.iadd, 1) := by decide +kernel
theorem dX4_append_11 : decode cX4_append 11 = .ok (.invokestatic 68, 3) := by decide +kernel
theorem dX4_append_14 : decode cX4_append 14 = .ok (.istore 5, 2) := by decide +kernel
theorem dX4_append_16 : decode cX4_append 16 = .ok (.iload 4, 2) := by decide +kernel
theorem dX4_append_18 : decode cX4_append 18 = .ok (.invokestatic 68, 3) := by decide +kernel
theorem dX4_append_21 : decode cX4_append 21 = .ok (.istore 6, 2) := by decide +kernel
theorem dX4_append_23 : decode cX4_append 23 = .ok (.iload 6, 2) := by decide +kernel
theorem dX4_append_25 : decode cX4_append 25 = .ok (.iload 5, 2) := by decide +kernel
theorem dX4_append_27 : decode cX4_append 27 = .ok (.if_icmp .ge 16, 3) := by decide +kernel
theorem dX4_append_30 : decode cX4_append 30 = .ok (.aload_n 0, 1) := by decide +kernel
theorem dX4_append_31 : decode cX4_append 31 = .ok (.iload_n 1, 1) := by decide +kernel
theorem dX4_append_32 : decode cX4_append 32 = .ok (.iload 6, 2) := by decide +kernel
theorem dX4_append_34 : decode cX4_append 34 = .ok (.invokevirtual 99, 3) := by decide +kernel
theorem dX4_append_37 : decode cX4_append 37 = .ok (.iinc 6 1, 3) := by decide +kernel
theorem dX4_append_40 : decode cX4_append 40 = .ok (.goto (-17), 3) := by decide +kernel
theorem dX4_append_43 : decode cX4_append 43 = .ok (.aload_n 0, 1) := by decide +kernel
theorem dX4_append_44 : decode cX4_append 44 = .ok (.iload_n 1, 1) := by decide +kernel
theorem dX4_append_45 : decode cX4_append 45 = .ok (.iload 4, 2) := by decide +kernel
theorem dX4_append_47 : decode cX4_append 47 = .ok (.iload_n 3, 1) := by decide +kernel
theorem dX4_append_48 : decode cX4_append 48 = .ok (.iadd, 1) := by decide +kernel
theorem dX4_append_49 : decode cX4_append 49 = .ok (.invokevirtual 102, 3) := by decide +kernel
theorem dX4_append_52 : decode cX4_append 52 = .ok (.aload_n 0, 1) := by decide +kernel
theorem dX4_append_53 : decode cX4_append 53 = .ok (.iload_n 1, 1) := by decide +kernel
theorem dX4_append_54 : decode cX4_append 54 = .ok (.iload 4, 2) := by decide +kernel
theorem dX4_append_56 : decode cX4_append 56 = .ok (.sipush 1024, 3) := by decide +kernel
theorem dX4_append_59 : decode cX4_append 59 = .ok (.idiv, 1) := by decide +kernel
theorem dX4_append_60 : decode cX4_append 60 = .ok (.invokevirtual 105, 3) := by decide +kernel
theorem dX4_append_63 : decode cX4_append 63 = .ok (.sipush 1024, 3) := by decide +kernel
theorem dX4_append_66 : decode cX4_append 66 = .ok (.imul, 1) := by decide +kernel
theorem dX4_append_67 : decode cX4_append 67 = .ok (.istore 6, 2) := by decide +kernel
theorem dX4_append_69 : decode cX4_append 69 = .ok (.iconst 0, 1) := by decide +kernel
theorem dX4_append_70 : decode cX4_append 70 = .ok (.istore 7, 2) := by decide +kernel
theorem dX4_append_72 : decode cX4_append 72 = .ok (.iload 7, 2) := by decide +kernel
theorem dX4_append_74 : decode cX4_append 74 = .ok (.iload_n 3, 1) := by decide +kernel
theorem dX4_append_75 : decode cX4_append 75 = .ok (.if_icmp .ge 63, 3) := by decide +kernel
theorem dX4_append_78 : decode cX4_append 78 = .ok (.iload 4, 2) := by decide +kernel
theorem dX4_append_80 : decode cX4_append 80 = .ok (.iload 7, 2) := by decide +kernel
theorem dX4_append_82 : decode cX4_append 82 = .ok (.iadd, 1) := by decide +kernel
theorem dX4_append_83 : decode cX4_append 83 = .ok (.sipush 1024, 3) := by decide +kernel
theorem dX4_append_86 : decode cX4_append 86 = .ok (.irem, 1) := by decide +kernel
theorem dX4_append_87 : decode cX4_append 87 = .ok (.istore 8, 2) := by decide +kernel
theorem dX4_append_89 : decode cX4_append 89 = .ok (.iload 8, 2) := by decide +kernel
theorem dX4_append_91 : decode cX4_append 91 = .ok (.ifCond .ne 23, 3) := by decide +kernel
theorem dX4_append_94 : decode cX4_append 94 = .ok (.aload_n 0, 1) := by decide +kernel
theorem dX4_append_95 : decode cX4_append 95 = .ok (.iload_n 1, 1) := by decide +kernel
theorem dX4_append_96 : decode cX4_append 96 = .ok (.iload 4, 2) := by decide +kernel
theorem dX4_append_98 : decode cX4_append 98 = .ok (.iload 7, 2) := by decide +kernel
theorem dX4_append_100 : decode cX4_append 100 = .ok (.iadd, 1) := by decide +kernel
theorem dX4_append_101 : decode cX4_append 101 = .ok (.sipush 1024, 3) := by decide +kernel
theorem dX4_append_104 : decode cX4_append 104 = .ok (.idiv, 1) := by decide +kernel
theorem dX4_append_105 : decode cX4_append 105 = .ok (.invokevirtual 105, 3) := by decide +kernel
theorem dX4_append_108 : decode cX4_append 108 = .ok (.sipush 1024, 3) := by decide +kernel
theorem dX4_append_111 : decode cX4_append 111 = .ok (.imul, 1) := by decide +kernel
theorem dX4_append_112 : decode cX4_append 112 = .ok (.istore 6, 2) := by decide +kernel
theorem dX4_append_114 : decode cX4_append 114 = .ok (.aload_n 0, 1) := by decide +kernel
theorem dX4_append_115 : decode cX4_append 115 = .ok (.getfield 9, 3) := by decide +kernel
theorem dX4_append_118 : decode cX4_append 118 = .ok (.iload 6, 2) := by decide +kernel
theorem dX4_append_120 : decode cX4_append 120 = .ok (.iload 8, 2) := by decide +kernel
theorem dX4_append_122 : decode cX4_append 122 = .ok (.iadd, 1) := by decide +kernel
theorem dX4_append_123 : decode cX4_append 123 = .ok (.aload_n 2, 1) := by decide +kernel
theorem dX4_append_124 : decode cX4_append 124 = .ok (.iload 7, 2) := by decide +kernel
theorem dX4_append_126 : decode cX4_append 126 = .ok (.invokevirtual 108, 3) := by decide +kernel
theorem dX4_append_129 : decode cX4_append 129 = .ok (.invokevirtual 113, 3) := by decide +kernel
theorem dX4_append_132 : decode cX4_append 132 = .ok (.iinc 7 1, 3) := by decide +kernel
theorem dX4_append_135 : decode cX4_append 135 = .ok (.goto (-63), 3) := by decide +kernel
theorem dX4_append_138 : decode cX4_append 138 = .ok (.iload 4, 2) := by decide +kernel
theorem dX4_append_140 : decode cX4_append 140 = .ok (.iload_n 3, 1) := by decide +kernel
theorem dX4_append_141 : decode cX4_append 141 = .ok (.iadd, 1) := by decide +kernel
theorem dX4_append_142 : decode cX4_append 142 = .ok (.ireturn, 1) := by decide +kernel
theorem dX0_write_0 : decode cX0_write 0 = .ok (.aload_n 0, 1) := by decide +kernel
theorem dX0_write_1 : decode cX0_write 1 = .ok (.getfield 85, 3) := by decide +kernel
theorem dX0_write_4 : decode cX0_write 4 = .ok (.invokevirtual 206, 3) := by decide +kernel
theorem dX0_write_7 : decode cX0_write 7 = .ok (.istore_n 2, 1) := by decide +kernel
theorem dX0_write_8 : decode cX0_write 8 = .ok (.aload_n 0, 1) := by decide +kernel
theorem dX0_write_9 : decode cX0_write 9 = .ok (.aload_n 0, 1) := by decide +kernel
theorem dX0_write_10 : decode cX0_write 10 = .ok (.iload_n 1, 1) := by decide +kernel
theorem dX0_write_11 : decode cX0_write 11 = .ok (.invokevirtual 174, 3) := by decide +kernel
theorem dX0_write_14 : decode cX0_write 14 = .ok (.invokevirtual 245, 3) := by decide +kernel
theorem dX0_write_17 : decode cX0_write 17 = .ok (.istore_n 3, 1) := by decide +kernel
theorem dX0_write_18 : decode cX0_write 18 = .ok (.aload_n 0, 1) := by decide +kernel
theorem dX0_write_19 : decode cX0_write 19 = .ok (.aload_n 0, 1) := by decide +kernel
theorem dX0_write_20 : decode cX0_write 20 = .ok (.getfield 51, 3) := by decide +kernel
theorem dX0_write_23 : decode cX0_write 23 = .ok (.iload_n 3, 1) := by decide +kernel
theorem dX0_write_24 : decode cX0_write 24 = .ok (.iload_n 2, 1) := by decide +kernel
theorem dX0_write_25 : decode cX0_write 25 = .ok (.invokevirtual 221, 3) := by decide +kernel
theorem dX0_write_28 : decode cX0_write 28 = .ok (.invokevirtual 248, 3) := by decide +kernel
theorem dX0_write_31 : decode cX0_write 31 = .ok (.aload_n 0, 1) := by decide +kernel
theorem dX0_write_32 : decode cX0_write 32 = .ok (.getfield 51, 3) := by decide +kernel
theorem dX0_write_35 : decode cX0_write 35 = .ok (.iload_n 3, 1) := by decide +kernel
theorem dX0_write_36 : decode cX0_write 36 = .ok (.aload_n 0, 1) := by decide +kernel
theorem dX0_write_37 : decode cX0_write 37 = .ok (.getfield 85, 3) := by decide +kernel
theorem dX0_write_40 : decode cX0_write 40 = .ok (.iload_n 2, 1) := by decide +kernel
theorem dX0_write_41 : decode cX0_write 41 = .ok (.invokevirtual 251, 3) := by decide +kernel
theorem dX0_write_44 : decode cX0_write 44 = .ok (.ireturn, 1) := by decide +kernel
theorem dX3_giveBack_0 : decode cX3_giveBack 0 = .ok (.iload_n 1, 1) := by decide +kernel
theorem dX3_giveBack_1 : decode cX3_giveBack 1 = .ok (.iconst 1, 1) := by decide +kernel
theorem dX3_giveBack_2 : decode cX3_giveBack 2 = .ok (.if_icmp .lt 17, 3) := by decide +kernel
theorem dX3_giveBack_5 : decode cX3_giveBack 5 = .ok (.aload_n 0, 1) := by decide +kernel
theorem dX3_giveBack_6 : decode cX3_giveBack 6 = .ok (.iload_n 1, 1) := by decide +kernel
theorem dX3_giveBack_7 : decode cX3_giveBack 7 = .ok (.invokevirtual 86, 3) := by decide +kernel
theorem dX3_giveBack_10 : decode cX3_giveBack 10 = .ok (.ifCond .eq 9, 3) := by decide +kernel
theorem dX3_giveBack_13 : decode cX3_giveBack 13 = .ok (.aload_n 0, 1) := by decide +kernel
theorem dX3_giveBack_14 : decode cX3_giveBack 14 = .ok (.iload_n 1, 1) := by decide +kernel
theorem dX3_giveBack_15 : decode cX3_giveBack 15 = .ok (.iconst 0, 1) := by decide +kernel
theorem dX3_giveBack_16 : decode cX3_giveBack 16 = .ok (.invokevirtual 82, 3) := by decide +kernel
theorem dX3_giveBack_19 : decode cX3_giveBack 19 = .ok (.return_, 1) := by decide +kernel
theorem dX4_lose_0 : decode cX4_lose 0 = .ok (.aload_n 0, 1) := by decide +kernel
theorem dX4_lose_1 : decode cX4_lose 1 = .ok (.getfield 19, 3) := by decide +kernel
theorem dX4_lose_4 : decode cX4_lose 4 = .ok (.aload_n 0, 1) := by decide +kernel
theorem dX4_lose_5 : decode cX4_lose 5 = .ok (.getfield 9, 3) := by decide +kernel
theorem dX4_lose_8 : decode cX4_lose 8 = .ok (.iload_n 2, 1) := by decide +kernel
theorem dX4_lose_9 : decode cX4_lose 9 = .ok (.invokevirtual 34, 3) := by decide +kernel
theorem dX4_lose_12 : decode cX4_lose 12 = .ok (.invokevirtual 95, 3) := by decide +kernel
theorem dX4_lose_15 : decode cX4_lose 15 = .ok (.aload_n 0, 1) := by decide +kernel
theorem dX4_lose_16 : decode cX4_lose 16 = .ok (.getfield 9, 3) := by decide +kernel
theorem dX4_lose_19 : decode cX4_lose 19 = .ok (.iload_n 2, 1) := by decide +kernel
theorem dX4_lose_20 : decode cX4_lose 20 = .ok (.iconst 0, 1) := by decide +kernel
theorem dX4_lose_21 : decode cX4_lose 21 = .ok (.invokevirtual 37, 3) := by decide +kernel
theorem dX4_lose_24 : decode cX4_lose 24 = .ok (.aload_n 0, 1) := by decide +kernel
theorem dX4_lose_25 : decode cX4_lose 25 = .ok (.getfield 9, 3) := by decide +kernel
theorem dX4_lose_28 : decode cX4_lose 28 = .ok (.iload_n 1, 1) := by decide +kernel
theorem dX4_lose_29 : decode cX4_lose 29 = .ok (.bipush 28, 2) := by decide +kernel
theorem dX4_lose_31 : decode cX4_lose 31 = .ok (.iadd, 1) := by decide +kernel
theorem dX4_lose_32 : decode cX4_lose 32 = .ok (.aload_n 0, 1) := by decide +kernel
theorem dX4_lose_33 : decode cX4_lose 33 = .ok (.getfield 9, 3) := by decide +kernel
theorem dX4_lose_36 : decode cX4_lose 36 = .ok (.iload_n 1, 1) := by decide +kernel
theorem dX4_lose_37 : decode cX4_lose 37 = .ok (.bipush 28, 2) := by decide +kernel
theorem dX4_lose_39 : decode cX4_lose 39 = .ok (.iadd, 1) := by decide +kernel
theorem dX4_lose_40 : decode cX4_lose 40 = .ok (.invokevirtual 34, 3) := by decide +kernel
theorem dX4_lose_43 : decode cX4_lose 43 = .ok (.iconst 2, 1) := by decide +kernel
theorem dX4_lose_44 : decode cX4_lose 44 = .ok (.isub, 1) := by decide +kernel
theorem dX4_lose_45 : decode cX4_lose 45 = .ok (.invokevirtual 37, 3) := by decide +kernel
theorem dX4_lose_48 : decode cX4_lose 48 = .ok (.return_, 1) := by decide +kernel
theorem dX4_dropBlock_0 : decode cX4_dropBlock 0 = .ok (.aload_n 0, 1) := by decide +kernel
theorem dX4_dropBlock_1 : decode cX4_dropBlock 1 = .ok (.getfield 15, 3) := by decide +kernel
theorem dX4_dropBlock_4 : decode cX4_dropBlock 4 = .ok (.iload_n 1, 1) := by decide +kernel
theorem dX4_dropBlock_5 : decode cX4_dropBlock 5 = .ok (.invokevirtual 23, 3) := by decide +kernel
theorem dX4_dropBlock_8 : decode cX4_dropBlock 8 = .ok (.istore_n 3, 1) := by decide +kernel
theorem dX4_dropBlock_9 : decode cX4_dropBlock 9 = .ok (.aload_n 0, 1) := by decide +kernel
theorem dX4_dropBlock_10 : decode cX4_dropBlock 10 = .ok (.iload_n 3, 1) := by decide +kernel
theorem dX4_dropBlock_11 : decode cX4_dropBlock 11 = .ok (.aload_n 0, 1) := by decide +kernel
theorem dX4_dropBlock_12 : decode cX4_dropBlock 12 = .ok (.iload_n 3, 1) := by decide +kernel
theorem dX4_dropBlock_13 : decode cX4_dropBlock 13 = .ok (.iload_n 2, 1) := by decide +kernel
theorem dX4_dropBlock_14 : decode cX4_dropBlock 14 = .ok (.invokevirtual 74, 3) := by decide +kernel
theorem dX4_dropBlock_17 : decode cX4_dropBlock 17 = .ok (.invokevirtual 92, 3) := by decide +kernel
theorem dX4_dropBlock_20 : decode cX4_dropBlock 20 = .ok (.iload_n 2, 1) := by decide +kernel
theorem dX4_dropBlock_21 : decode cX4_dropBlock 21 = .ok (.bipush 12, 2) := by decide +kernel
theorem dX4_dropBlock_23 : decode cX4_dropBlock 23 = .ok (.if_icmp .ne 12, 3) := by decide +kernel
theorem dX4_dropBlock_26 : decode cX4_dropBlock 26 = .ok (.aload_n 0, 1) := by decide +kernel
theorem dX4_dropBlock_27 : decode cX4_dropBlock 27 = .ok (.iload_n 3, 1) := by decide +kernel
theorem dX4_dropBlock_28 : decode cX4_dropBlock 28 = .ok (.iload_n 3, 1) := by decide +kernel
theorem dX4_dropBlock_29 : decode cX4_dropBlock 29 = .ok (.bipush 88, 2) := by decide +kernel
theorem dX4_dropBlock_31 : decode cX4_dropBlock 31 = .ok (.iadd, 1) := by decide +kernel
theorem dX4_dropBlock_32 : decode cX4_dropBlock 32 = .ok (.invokevirtual 92, 3) := by decide +kernel
theorem dX4_dropBlock_35 : decode cX4_dropBlock 35 = .ok (.iload_n 2, 1) := by decide +kernel
theorem dX4_dropBlock_36 : decode cX4_dropBlock 36 = .ok (.invokestatic 80, 3) := by decide +kernel
theorem dX4_dropBlock_39 : decode cX4_dropBlock 39 = .ok (.ifCond .eq 14, 3) := by decide +kernel
theorem dX4_dropBlock_42 : decode cX4_dropBlock 42 = .ok (.aload_n 0, 1) := by decide +kernel
theorem dX4_dropBlock_43 : decode cX4_dropBlock 43 = .ok (.iload_n 3, 1) := by decide +kernel
theorem dX4_dropBlock_44 : decode cX4_dropBlock 44 = .ok (.aload_n 0, 1) := by decide +kernel
theorem dX4_dropBlock_45 : decode cX4_dropBlock 45 = .ok (.iload_n 3, 1) := by decide +kernel
theorem dX4_dropBlock_46 : decode cX4_dropBlock 46 = .ok (.iload_n 2, 1) := by decide +kernel
theorem dX4_dropBlock_47 : decode cX4_dropBlock 47 = .ok (.invokevirtual 84, 3) := by decide +kernel
theorem dX4_dropBlock_50 : decode cX4_dropBlock 50 = .ok (.invokevirtual 92, 3) := by decide +kernel
theorem dX4_dropBlock_53 : decode cX4_dropBlock 53 = .ok (.iload_n 2, 1) := by decide +kernel
theorem dX4_dropBlock_54 : decode cX4_dropBlock 54 = .ok (.sipush 268, 3) := by decide +kernel
theorem dX4_dropBlock_57 : decode cX4_dropBlock 57 = .ok (.if_icmp .ne 12, 3) := by decide +kernel
theorem dX4_dropBlock_60 : decode cX4_dropBlock 60 = .ok (.aload_n 0, 1) := by decide +kernel
theorem dX4_dropBlock_61 : decode cX4_dropBlock 61 = .ok (.iload_n 3, 1) := by decide +kernel
theorem dX4_dropBlock_62 : decode cX4_dropBlock 62 = .ok (.iload_n 3, 1) := by decide +kernel
theorem dX4_dropBlock_63 : decode cX4_dropBlock 63 = .ok (.bipush 92, 2) := by decide +kernel
theorem dX4_dropBlock_65 : decode cX4_dropBlock 65 = .ok (.iadd, 1) := by decide +kernel
theorem dX4_dropBlock_66 : decode cX4_dropBlock 66 = .ok (.invokevirtual 92, 3) := by decide +kernel
theorem dX4_dropBlock_69 : decode cX4_dropBlock 69 = .ok (.return_, 1) := by decide +kernel
theorem dX4_shorten_0 : decode cX4_shorten 0 = .ok (.aload_n 0, 1) := by decide +kernel
theorem dX4_shorten_1 : decode cX4_shorten 1 = .ok (.getfield 19, 3) := by decide +kernel
theorem dX4_shorten_4 : decode cX4_shorten 4 = .ok (.invokevirtual 116, 3) := by decide +kernel
theorem dX4_shorten_7 : decode cX4_shorten 7 = .ok (.istore_n 3, 1) := by decide +kernel
theorem dX4_shorten_8 : decode cX4_shorten 8 = .ok (.iload_n 2, 1) := by decide +kernel
theorem dX4_shorten_9 : decode cX4_shorten 9 = .ok (.invokestatic 68, 3) := by decide +kernel
theorem dX4_shorten_12 : decode cX4_shorten 12 = .ok (.istore 4, 2) := by decide +kernel
theorem dX4_shorten_14 : decode cX4_shorten 14 = .ok (.aload_n 0, 1) := by decide +kernel
theorem dX4_shorten_15 : decode cX4_shorten 15 = .ok (.iload_n 1, 1) := by decide +kernel
theorem dX4_shorten_16 : decode cX4_shorten 16 = .ok (.invokevirtual 65, 3) := by decide +kernel
theorem dX4_shorten_19 : decode cX4_shorten 19 = .ok (.invokestatic 68, 3) := by decide +kernel
theorem dX4_shorten_22 : decode cX4_shorten 22 = .ok (.iconst 1, 1) := by decide +kernel
theorem dX4_shorten_23 : decode cX4_shorten 23 = .ok (.isub, 1) := by decide +kernel
theorem dX4_shorten_24 : decode cX4_shorten 24 = .ok (.istore 5, 2) := by decide +kernel
theorem dX4_shorten_26 : decode cX4_shorten 26 = .ok (.iload 5, 2) := by decide +kernel
theorem dX4_shorten_28 : decode cX4_shorten 28 = .ok (.iload 4, 2) := by decide +kernel
theorem dX4_shorten_30 : decode cX4_shorten 30 = .ok (.if_icmp .lt 16, 3) := by decide +kernel
theorem dX4_shorten_33 : decode cX4_shorten 33 = .ok (.aload_n 0, 1) := by decide +kernel
theorem dX4_shorten_34 : decode cX4_shorten 34 = .ok (.iload_n 1, 1) := by decide +kernel
theorem dX4_shorten_35 : decode cX4_shorten 35 = .ok (.iload 5, 2) := by decide +kernel
theorem dX4_shorten_37 : decode cX4_shorten 37 = .ok (.invokevirtual 119, 3) := by decide +kernel
theorem dX4_shorten_40 : decode cX4_shorten 40 = .ok (.iinc 5 (-1), 3) := by decide +kernel
theorem dX4_shorten_43 : decode cX4_shorten 43 = .ok (.goto (-17), 3) := by decide +kernel
theorem dX4_shorten_46 : decode cX4_shorten 46 = .ok (.aload_n 0, 1) := by decide +kernel
theorem dX4_shorten_47 : decode cX4_shorten 47 = .ok (.iload_n 1, 1) := by decide +kernel
theorem dX4_shorten_48 : decode cX4_shorten 48 = .ok (.iload_n 2, 1) := by decide +kernel
theorem dX4_shorten_49 : decode cX4_shorten 49 = .ok (.invokevirtual 102, 3) := by decide +kernel
theorem dX4_shorten_52 : decode cX4_shorten 52 = .ok (.aload_n 0, 1) := by decide +kernel
theorem dX4_shorten_53 : decode cX4_shorten 53 = .ok (.getfield 19, 3) := by decide +kernel
theorem dX4_shorten_56 : decode cX4_shorten 56 = .ok (.invokevirtual 116, 3) := by decide +kernel
theorem dX4_shorten_59 : decode cX4_shorten 59 = .ok (.iload_n 3, 1) := by decide +kernel
theorem dX4_shorten_60 : decode cX4_shorten 60 = .ok (.isub, 1) := by decide +kernel
theorem dX4_shorten_61 : decode cX4_shorten 61 = .ok (.ireturn, 1) := by decide +kernel
theorem dX0_cut_0 : decode cX0_cut 0 = .ok (.aload_n 0, 1) := by decide +kernel
theorem dX0_cut_1 : decode cX0_cut 1 = .ok (.aload_n 0, 1) := by decide +kernel
theorem dX0_cut_2 : decode cX0_cut 2 = .ok (.iload_n 1, 1) := by decide +kernel
theorem dX0_cut_3 : decode cX0_cut 3 = .ok (.invokevirtual 174, 3) := by decide +kernel
theorem dX0_cut_6 : decode cX0_cut 6 = .ok (.invokevirtual 245, 3) := by decide +kernel
theorem dX0_cut_9 : decode cX0_cut 9 = .ok (.istore_n 3, 1) := by decide +kernel
theorem dX0_cut_10 : decode cX0_cut 10 = .ok (.iload_n 2, 1) := by decide +kernel
theorem dX0_cut_11 : decode cX0_cut 11 = .ok (.ifCond .lt 15, 3) := by decide +kernel
theorem dX0_cut_14 : decode cX0_cut 14 = .ok (.iload_n 2, 1) := by decide +kernel
theorem dX0_cut_15 : decode cX0_cut 15 = .ok (.aload_n 0, 1) := by decide +kernel
theorem dX0_cut_16 : decode cX0_cut 16 = .ok (.getfield 51, 3) := by decide +kernel
theorem dX0_cut_19 : decode cX0_cut 19 = .ok (.iload_n 3, 1) := by decide +kernel
theorem dX0_cut_20 : decode cX0_cut 20 = .ok (.invokevirtual 186, 3) := by decide +kernel
theorem dX0_cut_23 : decode cX0_cut 23 = .ok (.if_icmp .le 14, 3) := by decide +kernel
theorem dX0_cut_26 : decode cX0_cut 26 = .ok (.new 105, 3) := by decide +kernel
theorem dX0_cut_29 : decode cX0_cut 29 = .ok (.dup, 1) := by decide +kernel
theorem dX0_cut_30 : decode cX0_cut 30 = .ok (.ldc_w 261, 3) := by decide +kernel
theorem dX0_cut_33 : decode cX0_cut 33 = .ok (.invokespecial 109, 3) := by decide +kernel
theorem dX0_cut_36 : decode cX0_cut 36 = .ok (.athrow, 1) := by decide +kernel
theorem dX0_cut_37 : decode cX0_cut 37 = .ok (.aload_n 0, 1) := by decide +kernel
theorem dX0_cut_38 : decode cX0_cut 38 = .ok (.getfield 51, 3) := by decide +kernel
theorem dX0_cut_41 : decode cX0_cut 41 = .ok (.iload_n 3, 1) := by decide +kernel
theorem dX0_cut_42 : decode cX0_cut 42 = .ok (.iload_n 2, 1) := by decide +kernel
theorem dX0_cut_43 : decode cX0_cut 43 = .ok (.invokevirtual 263, 3) := by decide +kernel
theorem dX0_cut_46 : decode cX0_cut 46 = .ok (.ireturn, 1) := by decide +kernel
theorem dX5_drop_0 : decode cX5_drop 0 = .ok (.aload_n 0, 1) := by decide +kernel
theorem dX5_drop_1 : decode cX5_drop 1 = .ok (.iload_n 1, 1) := by decide +kernel
theorem dX5_drop_2 : decode cX5_drop 2 = .ok (.invokevirtual 53, 3) := by decide +kernel
theorem dX5_drop_5 : decode cX5_drop 5 = .ok (.istore_n 2, 1) := by decide +kernel
theorem dX5_drop_6 : decode cX5_drop 6 = .ok (.iload_n 2, 1) := by decide +kernel
theorem dX5_drop_7 : decode cX5_drop 7 = .ok (.sipush 1024, 3) := by decide +kernel
theorem dX5_drop_10 : decode cX5_drop 10 = .ok (.irem, 1) := by decide +kernel
theorem dX5_drop_11 : decode cX5_drop 11 = .ok (.ifCond .ne 15, 3) := by decide +kernel
theorem dX5_drop_14 : decode cX5_drop 14 = .ok (.aload_n 0, 1) := by decide +kernel
theorem dX5_drop_15 : decode cX5_drop 15 = .ok (.getfield 15, 3) := by decide +kernel
theorem dX5_drop_18 : decode cX5_drop 18 = .ok (.iload_n 2, 1) := by decide +kernel
theorem dX5_drop_19 : decode cX5_drop 19 = .ok (.iconst 0, 1) := by decide +kernel
theorem dX5_drop_20 : decode cX5_drop 20 = .ok (.invokevirtual 93, 3) := by decide +kernel
theorem dX5_drop_23 : decode cX5_drop 23 = .ok (.goto 34, 3) := by decide +kernel
theorem dX5_drop_26 : decode cX5_drop 26 = .ok (.aload_n 0, 1) := by decide +kernel
theorem dX5_drop_27 : decode cX5_drop 27 = .ok (.iload_n 1, 1) := by decide +kernel
theorem dX5_drop_28 : decode cX5_drop 28 = .ok (.iconst 1, 1) := by decide +kernel
theorem dX5_drop_29 : decode cX5_drop 29 = .ok (.isub, 1) := by decide +kernel
theorem dX5_drop_30 : decode cX5_drop 30 = .ok (.invokevirtual 83, 3) := by decide +kernel
theorem dX5_drop_33 : decode cX5_drop 33 = .ok (.aload_n 0, 1) := by decide +kernel
theorem dX5_drop_34 : decode cX5_drop 34 = .ok (.iload_n 1, 1) := by decide +kernel
theorem dX5_drop_35 : decode cX5_drop 35 = .ok (.invokevirtual 83, 3) := by decide +kernel
theorem dX5_drop_38 : decode cX5_drop 38 = .ok (.iadd, 1) := by decide +kernel
theorem dX5_drop_39 : decode cX5_drop 39 = .ok (.istore_n 3, 1) := by decide +kernel
theorem dX5_drop_40 : decode cX5_drop 40 = .ok (.aload_n 0, 1) := by decide +kernel
theorem dX5_drop_41 : decode cX5_drop 41 = .ok (.getfield 15, 3) := by decide +kernel
theorem dX5_drop_44 : decode cX5_drop 44 = .ok (.aload_n 0, 1) := by decide +kernel
theorem dX5_drop_45 : decode cX5_drop 45 = .ok (.iload_n 1, 1) := by decide +kernel
theorem dX5_drop_46 : decode cX5_drop 46 = .ok (.iconst 1, 1) := by decide +kernel
theorem dX5_drop_47 : decode cX5_drop 47 = .ok (.isub, 1) := by decide +kernel
theorem dX5_drop_48 : decode cX5_drop 48 = .ok (.invokevirtual 53, 3) := by decide +kernel
theorem dX5_drop_51 : decode cX5_drop 51 = .ok (.iconst 4, 1) := by decide +kernel
theorem dX5_drop_52 : decode cX5_drop 52 = .ok (.iadd, 1) := by decide +kernel
theorem dX5_drop_53 : decode cX5_drop 53 = .ok (.iload_n 3, 1) := by decide +kernel
theorem dX5_drop_54 : decode cX5_drop 54 = .ok (.invokevirtual 89, 3) := by decide +kernel
theorem dX5_drop_57 : decode cX5_drop 57 = .ok (.return_, 1) := by decide +kernel
theorem dX4_erase_0 : decode cX4_erase 0 = .ok (.aload_n 0, 1) := by decide +kernel
theorem dX4_erase_1 : decode cX4_erase 1 = .ok (.getfield 15, 3) := by decide +kernel
theorem dX4_erase_4 : decode cX4_erase 4 = .ok (.iload_n 1, 1) := by decide +kernel
theorem dX4_erase_5 : decode cX4_erase 5 = .ok (.invokevirtual 23, 3) := by decide +kernel
theorem dX4_erase_8 : decode cX4_erase 8 = .ok (.istore_n 2, 1) := by decide +kernel
theorem dX4_erase_9 : decode cX4_erase 9 = .ok (.aload_n 0, 1) := by decide +kernel
theorem dX4_erase_10 : decode cX4_erase 10 = .ok (.getfield 9, 3) := by decide +kernel
theorem dX4_erase_13 : decode cX4_erase 13 = .ok (.iload_n 2, 1) := by decide +kernel
theorem dX4_erase_14 : decode cX4_erase 14 = .ok (.iload_n 2, 1) := by decide +kernel
theorem dX4_erase_15 : decode cX4_erase 15 = .ok (.sipush 128, 3) := by decide +kernel
theorem dX4_erase_18 : decode cX4_erase 18 = .ok (.iadd, 1) := by decide +kernel
theorem dX4_erase_19 : decode cX4_erase 19 = .ok (.iconst 0, 1) := by decide +kernel
theorem dX4_erase_20 : decode cX4_erase 20 = .ok (.invokevirtual 61, 3) := by decide +kernel
theorem dX4_erase_23 : decode cX4_erase 23 = .ok (.return_, 1) := by decide +kernel
theorem dX0_remove_0 : decode cX0_remove 0 = .ok (.aload_n 0, 1) := by decide +kernel
theorem dX0_remove_1 : decode cX0_remove 1 = .ok (.iload_n 1, 1) := by decide +kernel
theorem dX0_remove_2 : decode cX0_remove 2 = .ok (.invokevirtual 174, 3) := by decide +kernel
theorem dX0_remove_5 : decode cX0_remove 5 = .ok (.istore_n 2, 1) := by decide +kernel
theorem dX0_remove_6 : decode cX0_remove 6 = .ok (.aload_n 0, 1) := by decide +kernel
theorem dX0_remove_7 : decode cX0_remove 7 = .ok (.getfield 60, 3) := by decide +kernel
theorem dX0_remove_10 : decode cX0_remove 10 = .ok (.iload_n 2, 1) := by decide +kernel
theorem dX0_remove_11 : decode cX0_remove 11 = .ok (.invokevirtual 180, 3) := by decide +kernel
theorem dX0_remove_14 : decode cX0_remove 14 = .ok (.istore_n 3, 1) := by decide +kernel
theorem dX0_remove_15 : decode cX0_remove 15 = .ok (.aload_n 0, 1) := by decide +kernel
theorem dX0_remove_16 : decode cX0_remove 16 = .ok (.getfield 51, 3) := by decide +kernel
theorem dX0_remove_19 : decode cX0_remove 19 = .ok (.iload_n 3, 1) := by decide +kernel
theorem dX0_remove_20 : decode cX0_remove 20 = .ok (.invokevirtual 183, 3) := by decide +kernel
theorem dX0_remove_23 : decode cX0_remove 23 = .ok (.istore 4, 2) := by decide +kernel
theorem dX0_remove_25 : decode cX0_remove 25 = .ok (.iload 4, 2) := by decide +kernel
theorem dX0_remove_27 : decode cX0_remove 27 = .ok (.ifCond .eq 64, 3) := by decide +kernel
theorem dX0_remove_30 : decode cX0_remove 30 = .ok (.aload_n 0, 1) := by decide +kernel
theorem dX0_remove_31 : decode cX0_remove 31 = .ok (.getfield 60, 3) := by decide +kernel
theorem dX0_remove_34 : decode cX0_remove 34 = .ok (.iload_n 3, 1) := by decide +kernel
theorem dX0_remove_35 : decode cX0_remove 35 = .ok (.invokevirtual 168, 3) := by decide +kernel
theorem dX0_remove_38 : decode cX0_remove 38 = .ok (.aload_n 0, 1) := by decide +kernel
theorem dX0_remove_39 : decode cX0_remove 39 = .ok (.getfield 60, 3) := by decide +kernel
theorem dX0_remove_42 : decode cX0_remove 42 = .ok (.invokevirtual 171, 3) := by decide +kernel
theorem dX0_remove_45 : decode cX0_remove 45 = .ok (.ifCond .le 14, 3) := by decide +kernel
theorem dX0_remove_48 : decode cX0_remove 48 = .ok (.new 105, 3) := by decide +kernel
theorem dX0_remove_51 : decode cX0_remove 51 = .ok (.dup, 1) := by decide +kernel
theorem dX0_remove_52 : decode cX0_remove 52 = .ok (.ldc_w 266, 3) := by decide +kernel
theorem dX0_remove_55 : decode cX0_remove 55 = .ok (.invokespecial 109, 3) := by decide +kernel
theorem dX0_remove_58 : decode cX0_remove 58 = .ok (.athrow, 1) := by decide +kernel
theorem dX0_remove_59 : decode cX0_remove 59 = .ok (.aload_n 0, 1) := by decide +kernel
theorem dX0_remove_60 : decode cX0_remove 60 = .ok (.getfield 60, 3) := by decide +kernel
theorem dX0_remove_63 : decode cX0_remove 63 = .ok (.aload_n 0, 1) := by decide +kernel
theorem dX0_remove_64 : decode cX0_remove 64 = .ok (.getfield 89, 3) := by decide +kernel
theorem dX0_remove_67 : decode cX0_remove 67 = .ok (.invokevirtual 168, 3) := by decide +kernel
theorem dX0_remove_70 : decode cX0_remove 70 = .ok (.aload_n 0, 1) := by decide +kernel
theorem dX0_remove_71 : decode cX0_remove 71 = .ok (.getfield 51, 3) := by decide +kernel
theorem dX0_remove_74 : decode cX0_remove 74 = .ok (.aload_n 0, 1) := by decide +kernel
theorem dX0_remove_75 : decode cX0_remove 75 = .ok (.getfield 89, 3) := by decide +kernel
theorem dX0_remove_78 : decode cX0_remove 78 = .ok (.iconst (-1), 1) := by decide +kernel
theorem dX0_remove_79 : decode cX0_remove 79 = .ok (.invokevirtual 239, 3) := by decide +kernel
theorem dX0_remove_82 : decode cX0_remove 82 = .ok (.aload_n 0, 1) := by decide +kernel
theorem dX0_remove_83 : decode cX0_remove 83 = .ok (.getfield 51, 3) := by decide +kernel
theorem dX0_remove_86 : decode cX0_remove 86 = .ok (.iload_n 3, 1) := by decide +kernel
theorem dX0_remove_87 : decode cX0_remove 87 = .ok (.iconst (-1), 1) := by decide +kernel
theorem dX0_remove_88 : decode cX0_remove 88 = .ok (.invokevirtual 133, 3) := by decide +kernel
theorem dX0_remove_91 : decode cX0_remove 91 = .ok (.aload_n 0, 1) := by decide +kernel
theorem dX0_remove_92 : decode cX0_remove 92 = .ok (.getfield 60, 3) := by decide +kernel
theorem dX0_remove_95 : decode cX0_remove 95 = .ok (.iload_n 2, 1) := by decide +kernel
theorem dX0_remove_96 : decode cX0_remove 96 = .ok (.invokevirtual 268, 3) := by decide +kernel
theorem dX0_remove_99 : decode cX0_remove 99 = .ok (.aload_n 0, 1) := by decide +kernel
theorem dX0_remove_100 : decode cX0_remove 100 = .ok (.getfield 51, 3) := by decide +kernel
theorem dX0_remove_103 : decode cX0_remove 103 = .ok (.iload_n 3, 1) := by decide +kernel
theorem dX0_remove_104 : decode cX0_remove 104 = .ok (.iconst 0, 1) := by decide +kernel
theorem dX0_remove_105 : decode cX0_remove 105 = .ok (.invokevirtual 263, 3) := by decide +kernel
theorem dX0_remove_108 : decode cX0_remove 108 = .ok (.pop, 1) := by decide +kernel
theorem dX0_remove_109 : decode cX0_remove 109 = .ok (.aload_n 0, 1) := by decide +kernel
theorem dX0_remove_110 : decode cX0_remove 110 = .ok (.getfield 51, 3) := by decide +kernel
theorem dX0_remove_113 : decode cX0_remove 113 = .ok (.iload_n 3, 1) := by decide +kernel
theorem dX0_remove_114 : decode cX0_remove 114 = .ok (.invokevirtual 271, 3) := by decide +kernel
theorem dX0_remove_117 : decode cX0_remove 117 = .ok (.aload_n 0, 1) := by decide +kernel
theorem dX0_remove_118 : decode cX0_remove 118 = .ok (.getfield 43, 3) := by decide +kernel
theorem dX0_remove_121 : decode cX0_remove 121 = .ok (.iload_n 3, 1) := by decide +kernel
theorem dX0_remove_122 : decode cX0_remove 122 = .ok (.invokevirtual 274, 3) := by decide +kernel
theorem dX0_remove_125 : decode cX0_remove 125 = .ok (.return_, 1) := by decide +kernel
theorem dX4_setTime_0 : decode cX4_setTime 0 = .ok (.aload_n 0, 1) := by decide +kernel
theorem dX4_setTime_1 : decode cX4_setTime 1 = .ok (.getfield 9, 3) := by decide +kernel
theorem dX4_setTime_4 : decode cX4_setTime 4 = .ok (.aload_n 0, 1) := by decide +kernel
theorem dX4_setTime_5 : decode cX4_setTime 5 = .ok (.getfield 15, 3) := by decide +kernel
theorem dX4_setTime_8 : decode cX4_setTime 8 = .ok (.iload_n 1, 1) := by decide +kernel
theorem dX4_setTime_9 : decode cX4_setTime 9 = .ok (.invokevirtual 23, 3) := by decide +kernel
theorem dX4_setTime_12 : decode cX4_setTime 12 = .ok (.bipush 8, 2) := by decide +kernel
theorem dX4_setTime_14 : decode cX4_setTime 14 = .ok (.iadd, 1) := by decide +kernel
theorem dX4_setTime_15 : decode cX4_setTime 15 = .ok (.iconst 4, 1) := by decide +kernel
theorem dX4_setTime_16 : decode cX4_setTime 16 = .ok (.iload_n 2, 1) := by decide +kernel
theorem dX4_setTime_17 : decode cX4_setTime 17 = .ok (.imul, 1) := by decide +kernel
theorem dX4_setTime_18 : decode cX4_setTime 18 = .ok (.iadd, 1) := by decide +kernel
theorem dX4_setTime_19 : decode cX4_setTime 19 = .ok (.lload_n 3, 1) := by decide +kernel
theorem dX4_setTime_20 : decode cX4_setTime 20 = .ok (.l2i, 1) := by decide +kernel
theorem dX4_setTime_21 : decode cX4_setTime 21 = .ok (.invokevirtual 37, 3) := by decide +kernel
theorem dX4_setTime_24 : decode cX4_setTime 24 = .ok (.return_, 1) := by decide +kernel
theorem dX0_stamp_0 : decode cX0_stamp 0 = .ok (.aload_n 0, 1) := by decide +kernel
theorem dX0_stamp_1 : decode cX0_stamp 1 = .ok (.getfield 60, 3) := by decide +kernel
theorem dX0_stamp_4 : decode cX0_stamp 4 = .ok (.aload_n 0, 1) := by decide +kernel
theorem dX0_stamp_5 : decode cX0_stamp 5 = .ok (.iload_n 1, 1) := by decide +kernel
theorem dX0_stamp_6 : decode cX0_stamp 6 = .ok (.invokevirtual 174, 3) := by decide +kernel
theorem dX0_stamp_9 : decode cX0_stamp 9 = .ok (.invokevirtual 180, 3) := by decide +kernel
theorem dX0_stamp_12 : decode cX0_stamp 12 = .ok (.istore 5, 2) := by decide +kernel
theorem dX0_stamp_14 : decode cX0_stamp 14 = .ok (.iload_n 2, 1) := by decide +kernel
theorem dX0_stamp_15 : decode cX0_stamp 15 = .ok (.ifCond .lt 8, 3) := by decide +kernel
theorem dX0_stamp_18 : decode cX0_stamp 18 = .ok (.iload_n 2, 1) := by decide +kernel
theorem dX0_stamp_19 : decode cX0_stamp 19 = .ok (.iconst 2, 1) := by decide +kernel
theorem dX0_stamp_20 : decode cX0_stamp 20 = .ok (.if_icmp .le 14, 3) := by decide +kernel
theorem dX0_stamp_23 : decode cX0_stamp 23 = .ok (.new 105, 3) := by decide +kernel
theorem dX0_stamp_26 : decode cX0_stamp 26 = .ok (.dup, 1) := by decide +kernel
theorem dX0_stamp_27 : decode cX0_stamp 27 = .ok (.ldc_w 277, 3) := by decide +kernel
theorem dX0_stamp_30 : decode cX0_stamp 30 = .ok (.invokespecial 109, 3) := by decide +kernel
theorem dX0_stamp_33 : decode cX0_stamp 33 = .ok (.athrow, 1) := by decide +kernel
theorem dX0_stamp_34 : decode cX0_stamp 34 = .ok (.aload_n 0, 1) := by decide +kernel
theorem dX0_stamp_35 : decode cX0_stamp 35 = .ok (.getfield 51, 3) := by decide +kernel
theorem dX0_stamp_38 : decode cX0_stamp 38 = .ok (.iload 5, 2) := by decide +kernel
theorem dX0_stamp_40 : decode cX0_stamp 40 = .ok (.iload_n 2, 1) := by decide +kernel
theorem dX0_stamp_41 : decode cX0_stamp 41 = .ok (.lload_n 3, 1) := by decide +kernel
theorem dX0_stamp_42 : decode cX0_stamp 42 = .ok (.invokevirtual 279, 3) := by decide +kernel
theorem dX0_stamp_45 : decode cX0_stamp 45 = .ok (.return_, 1) := by decide +kernel
theorem dX12_thrown_0 : decode cX12_thrown 0 = .ok (.aload_n 0, 1) := by decide +kernel
theorem dX12_thrown_1 : decode cX12_thrown 1 = .ok (.getfield 72, 3) := by decide +kernel
theorem dX12_thrown_4 : decode cX12_thrown 4 = .ok (.ireturn, 1) := by decide +kernel
theorem dX12_fails_0 : decode cX12_fails 0 = .ok (.iload_n 1, 1) := by decide +kernel
theorem dX12_fails_1 : decode cX12_fails 1 = .ok (.ifCond .eq 15, 3) := by decide +kernel
theorem dX12_fails_4 : decode cX12_fails 4 = .ok (.aload_n 0, 1) := by decide +kernel
theorem dX12_fails_5 : decode cX12_fails 5 = .ok (.getfield 72, 3) := by decide +kernel
theorem dX12_fails_8 : decode cX12_fails 8 = .ok (.ifCond .ne 8, 3) := by decide +kernel
theorem dX12_fails_11 : decode cX12_fails 11 = .ok (.aload_n 0, 1) := by decide +kernel
theorem dX12_fails_12 : decode cX12_fails 12 = .ok (.iload_n 2, 1) := by decide +kernel
theorem dX12_fails_13 : decode cX12_fails 13 = .ok (.putfield 72, 3) := by decide +kernel
theorem dX12_fails_16 : decode cX12_fails 16 = .ok (.aload_n 0, 1) := by decide +kernel
theorem dX12_fails_17 : decode cX12_fails 17 = .ok (.getfield 72, 3) := by decide +kernel
theorem dX12_fails_20 : decode cX12_fails 20 = .ok (.ifCond .eq 7, 3) := by decide +kernel
theorem dX12_fails_23 : decode cX12_fails 23 = .ok (.iconst 1, 1) := by decide +kernel
theorem dX12_fails_24 : decode cX12_fails 24 = .ok (.goto 4, 3) := by decide +kernel
theorem dX12_fails_27 : decode cX12_fails 27 = .ok (.iconst 0, 1) := by decide +kernel
theorem dX12_fails_28 : decode cX12_fails 28 = .ok (.ireturn, 1) := by decide +kernel
theorem dX12_parts_0 : decode cX12_parts 0 = .ok (.iload_n 0, 1) := by decide +kernel
theorem dX12_parts_1 : decode cX12_parts 1 = .ok (.iload_n 1, 1) := by decide +kernel
theorem dX12_parts_2 : decode cX12_parts 2 = .ok (.iadd, 1) := by decide +kernel
theorem dX12_parts_3 : decode cX12_parts 3 = .ok (.iconst 1, 1) := by decide +kernel
theorem dX12_parts_4 : decode cX12_parts 4 = .ok (.isub, 1) := by decide +kernel
theorem dX12_parts_5 : decode cX12_parts 5 = .ok (.iload_n 1, 1) := by decide +kernel
theorem dX12_parts_6 : decode cX12_parts 6 = .ok (.idiv, 1) := by decide +kernel
theorem dX12_parts_7 : decode cX12_parts 7 = .ok (.ireturn, 1) := by decide +kernel
theorem dX12_feed_0 : decode cX12_feed 0 = .ok (.aload_n 0, 1) := by decide +kernel
theorem dX12_feed_1 : decode cX12_feed 1 = .ok (.iconst 0, 1) := by decide +kernel
theorem dX12_feed_2 : decode cX12_feed 2 = .ok (.putfield 72, 3) := by decide +kernel
theorem dX12_feed_5 : decode cX12_feed 5 = .ok (.iconst 0, 1) := by decide +kernel
theorem dX12_feed_6 : decode cX12_feed 6 = .ok (.istore 6, 2) := by decide +kernel
theorem dX12_feed_8 : decode cX12_feed 8 = .ok (.iload 6, 2) := by decide +kernel
theorem dX12_feed_10 : decode cX12_feed 10 = .ok (.bipush 20, 2) := by decide +kernel
theorem dX12_feed_12 : decode cX12_feed 12 = .ok (.if_icmp .ge 78, 3) := by decide +kernel
theorem dX12_feed_15 : decode cX12_feed 15 = .ok (.iload 6, 2) := by decide +kernel
theorem dX12_feed_17 : decode cX12_feed 17 = .ok (.iconst 4, 1) := by decide +kernel
theorem dX12_feed_18 : decode cX12_feed 18 = .ok (.if_icmp .ge 7, 3) := by decide +kernel
theorem dX12_feed_21 : decode cX12_feed 21 = .ok (.iload_n 1, 1) := by decide +kernel
theorem dX12_feed_22 : decode cX12_feed 22 = .ok (.goto 39, 3) := by decide +kernel
theorem dX12_feed_25 : decode cX12_feed 25 = .ok (.iload 6, 2) := by decide +kernel
theorem dX12_feed_27 : decode cX12_feed 27 = .ok (.bipush 8, 2) := by decide +kernel
theorem dX12_feed_29 : decode cX12_feed 29 = .ok (.if_icmp .ge 7, 3) := by decide +kernel
theorem dX12_feed_32 : decode cX12_feed 32 = .ok (.iload_n 2, 1) := by decide +kernel
theorem dX12_feed_33 : decode cX12_feed 33 = .ok (.goto 28, 3) := by decide +kernel
theorem dX12_feed_36 : decode cX12_feed 36 = .ok (.iload 6, 2) := by decide +kernel
theorem dX12_feed_38 : decode cX12_feed 38 = .ok (.bipush 12, 2) := by decide +kernel
theorem dX12_feed_40 : decode cX12_feed 40 = .ok (.if_icmp .ge 7, 3) := by decide +kernel
theorem dX12_feed_43 : decode cX12_feed 43 = .ok (.iload_n 3, 1) := by decide +kernel
theorem dX12_feed_44 : decode cX12_feed 44 = .ok (.goto 17, 3) := by decide +kernel
theorem dX12_feed_47 : decode cX12_feed 47 = .ok (.iload 6, 2) := by decide +kernel
theorem dX12_feed_49 : decode cX12_feed 49 = .ok (.bipush 16, 2) := by decide +kernel
theorem dX12_feed_51 : decode cX12_feed 51 = .ok (.if_icmp .ge 8, 3) := by decide +kernel
theorem dX12_feed_54 : decode cX12_feed 54 = .ok (.iload 4, 2) := by decide +kernel
theorem dX12_feed_56 : decode cX12_feed 56 = .ok (.goto 5, 3) := by decide +kernel
theorem dX12_feed_59 : decode cX12_feed 59 = .ok (.iload 5, 2) := by decide +kernel
theorem dX12_feed_61 : decode cX12_feed 61 = .ok (.istore 7, 2) := by decide +kernel
theorem dX12_feed_63 : decode cX12_feed 63 = .ok (.aload_n 0, 1) := by decide +kernel
theorem dX12_feed_64 : decode cX12_feed 64 = .ok (.getfield 20, 3) := by decide +kernel
theorem dX12_feed_67 : decode cX12_feed 67 = .ok (.iload 6, 2) := by decide +kernel
theorem dX12_feed_69 : decode cX12_feed 69 = .ok (.iload 7, 2) := by decide +kernel
theorem dX12_feed_71 : decode cX12_feed 71 = .ok (.bipush 24, 2) := by decide +kernel
theorem dX12_feed_73 : decode cX12_feed 73 = .ok (.bipush 8, 2) := by decide +kernel
theorem dX12_feed_75 : decode cX12_feed 75 = .ok (.iload 6, 2) := by decide +kernel
theorem dX12_feed_77 : decode cX12_feed 77 = .ok (.iconst 4, 1) := by decide +kernel
theorem dX12_feed_78 : decode cX12_feed 78 = .ok (.irem, 1) := by decide +kernel
theorem dX12_feed_79 : decode cX12_feed 79 = .ok (.imul, 1) := by decide +kernel
theorem dX12_feed_80 : decode cX12_feed 80 = .ok (.isub, 1) := by decide +kernel
theorem dX12_feed_81 : decode cX12_feed 81 = .ok (.ishr, 1) := by decide +kernel
theorem dX12_feed_82 : decode cX12_feed 82 = .ok (.i2b, 1) := by decide +kernel
theorem dX12_feed_83 : decode cX12_feed 83 = .ok (.bastore, 1) := by decide +kernel
theorem dX12_feed_84 : decode cX12_feed 84 = .ok (.iinc 6 1, 3) := by decide +kernel
theorem dX12_feed_87 : decode cX12_feed 87 = .ok (.goto (-79), 3) := by decide +kernel
theorem dX12_feed_90 : decode cX12_feed 90 = .ok (.return_, 1) := by decide +kernel
theorem dX12_end_0 : decode cX12_end 0 = .ok (.aload_n 0, 1) := by decide +kernel
theorem dX12_end_1 : decode cX12_end 1 = .ok (.iconst 0, 1) := by decide +kernel
theorem dX12_end_2 : decode cX12_end 2 = .ok (.putfield 72, 3) := by decide +kernel
theorem dX12_end_5 : decode cX12_end 5 = .ok (.iload_n 1, 1) := by decide +kernel
theorem dX12_end_6 : decode cX12_end 6 = .ok (.ifCond .lt 21, 3) := by decide +kernel
theorem dX12_end_9 : decode cX12_end 9 = .ok (.iload_n 1, 1) := by decide +kernel
theorem dX12_end_10 : decode cX12_end 10 = .ok (.bipush 20, 2) := by decide +kernel
theorem dX12_end_12 : decode cX12_end 12 = .ok (.if_icmp .gt 15, 3) := by decide +kernel
theorem dX12_end_15 : decode cX12_end 15 = .ok (.aload_n 0, 1) := by decide +kernel
theorem dX12_end_16 : decode cX12_end 16 = .ok (.getfield 75, 3) := by decide +kernel
theorem dX12_end_19 : decode cX12_end 19 = .ok (.iload_n 1, 1) := by decide +kernel
theorem dX12_end_20 : decode cX12_end 20 = .ok (.iadd, 1) := by decide +kernel
theorem dX12_end_21 : decode cX12_end 21 = .ok (.sipush 4096, 3) := by decide +kernel
theorem dX12_end_24 : decode cX12_end 24 = .ok (.if_icmp .le 5, 3) := by decide +kernel
theorem dX12_end_27 : decode cX12_end 27 = .ok (.iconst (-1), 1) := by decide +kernel
theorem dX12_end_28 : decode cX12_end 28 = .ok (.ireturn, 1) := by decide +kernel
theorem dX12_end_29 : decode cX12_end 29 = .ok (.iconst 0, 1) := by decide +kernel
theorem dX12_end_30 : decode cX12_end 30 = .ok (.istore_n 2, 1) := by decide +kernel
theorem dX12_end_31 : decode cX12_end 31 = .ok (.iload_n 2, 1) := by decide +kernel
theorem dX12_end_32 : decode cX12_end 32 = .ok (.iload_n 1, 1) := by decide +kernel
theorem dX12_end_33 : decode cX12_end 33 = .ok (.if_icmp .ge 26, 3) := by decide +kernel
theorem dX12_end_36 : decode cX12_end 36 = .ok (.aload_n 0, 1) := by decide +kernel
theorem dX12_end_37 : decode cX12_end 37 = .ok (.getfield 17, 3) := by decide +kernel
theorem dX12_end_40 : decode cX12_end 40 = .ok (.aload_n 0, 1) := by decide +kernel
theorem dX12_end_41 : decode cX12_end 41 = .ok (.getfield 75, 3) := by decide +kernel
theorem dX12_end_44 : decode cX12_end 44 = .ok (.iload_n 2, 1) := by decide +kernel
theorem dX12_end_45 : decode cX12_end 45 = .ok (.iadd, 1) := by decide +kernel
theorem dX12_end_46 : decode cX12_end 46 = .ok (.aload_n 0, 1) := by decide +kernel
theorem dX12_end_47 : decode cX12_end 47 = .ok (.getfield 20, 3) := by decide +kernel
theorem dX12_end_50 : decode cX12_end 50 = .ok (.iload_n 2, 1) := by decide +kernel
theorem dX12_end_51 : decode cX12_end 51 = .ok (.baload, 1) := by decide +kernel
theorem dX12_end_52 : decode cX12_end 52 = .ok (.bastore, 1) := by decide +kernel
theorem dX12_end_53 : decode cX12_end 53 = .ok (.iinc 2 1, 3) := by decide +kernel
theorem dX12_end_56 : decode cX12_end 56 = .ok (.goto (-25), 3) := by decide +kernel
theorem dX12_end_59 : decode cX12_end 59 = .ok (.iconst 0, 1) := by decide +kernel
theorem dX12_end_60 : decode cX12_end 60 = .ok (.istore_n 2, 1) := by decide +kernel
theorem dX12_end_61 : decode cX12_end 61 = .ok (.iload_n 2, 1) := by decide +kernel
theorem dX12_end_62 : decode cX12_end 62 = .ok (.bipush 20, 2) := by decide +kernel
theorem dX12_end_64 : decode cX12_end 64 = .ok (.if_icmp .ge 16, 3) := by decide +kernel
theorem dX12_end_67 : decode cX12_end 67 = .ok (.aload_n 0, 1) := by decide +kernel
theorem dX12_end_68 : decode cX12_end 68 = .ok (.getfield 20, 3) := by decide +kernel
theorem dX12_end_71 : decode cX12_end 71 = .ok (.iload_n 2, 1) := by decide +kernel
theorem dX12_end_72 : decode cX12_end 72 = .ok (.iconst 0, 1) := by decide +kernel
theorem dX12_end_73 : decode cX12_end 73 = .ok (.bastore, 1) := by decide +kernel
theorem dX12_end_74 : decode cX12_end 74 = .ok (.iinc 2 1, 3) := by decide +kernel
theorem dX12_end_77 : decode cX12_end 77 = .ok (.goto (-16), 3) := by decide +kernel
theorem dX12_end_80 : decode cX12_end 80 = .ok (.aload_n 0, 1) := by decide +kernel
theorem dX12_end_81 : decode cX12_end 81 = .ok (.dup, 1) := by decide +kernel
theorem dX12_end_82 : decode cX12_end 82 = .ok (.getfield 75, 3) := by decide +kernel
theorem dX12_end_85 : decode cX12_end 85 = .ok (.iload_n 1, 1) := by decide +kernel
theorem dX12_end_86 : decode cX12_end 86 = .ok (.iadd, 1) := by decide +kernel
theorem dX12_end_87 : decode cX12_end 87 = .ok (.putfield 75, 3) := by decide +kernel
theorem dX12_end_90 : decode cX12_end 90 = .ok (.aload_n 0, 1) := by decide +kernel
theorem dX12_end_91 : decode cX12_end 91 = .ok (.getfield 75, 3) := by decide +kernel
theorem dX12_end_94 : decode cX12_end 94 = .ok (.ireturn, 1) := by decide +kernel
theorem dX12_begin_0 : decode cX12_begin 0 = .ok (.iconst 1, 1) := by decide +kernel
theorem dX12_begin_1 : decode cX12_begin 1 = .ok (.iload_n 1, 1) := by decide +kernel
theorem dX12_begin_2 : decode cX12_begin 2 = .ok (.aload_n 0, 1) := by decide +kernel
theorem dX12_begin_3 : decode cX12_begin 3 = .ok (.getfield 78, 3) := by decide +kernel
theorem dX12_begin_6 : decode cX12_begin 6 = .ok (.imul, 1) := by decide +kernel
theorem dX12_begin_7 : decode cX12_begin 7 = .ok (.iadd, 1) := by decide +kernel
theorem dX12_begin_8 : decode cX12_begin 8 = .ok (.ireturn, 1) := by decide +kernel
theorem dX12_room_0 : decode cX12_room 0 = .ok (.iload_n 1, 1) := by decide +kernel
theorem dX12_room_1 : decode cX12_room 1 = .ok (.aload_n 0, 1) := by decide +kernel
theorem dX12_room_2 : decode cX12_room 2 = .ok (.getfield 81, 3) := by decide +kernel
theorem dX12_room_5 : decode cX12_room 5 = .ok (.iconst 1, 1) := by decide +kernel
theorem dX12_room_6 : decode cX12_room 6 = .ok (.isub, 1) := by decide +kernel
theorem dX12_room_7 : decode cX12_room 7 = .ok (.if_icmp .ge 10, 3) := by decide +kernel
theorem dX12_room_10 : decode cX12_room 10 = .ok (.aload_n 0, 1) := by decide +kernel
theorem dX12_room_11 : decode cX12_room 11 = .ok (.getfield 78, 3) := by decide +kernel
theorem dX12_room_14 : decode cX12_room 14 = .ok (.goto 13, 3) := by decide +kernel
theorem dX12_room_17 : decode cX12_room 17 = .ok (.aload_n 0, 1) := by decide +kernel
theorem dX12_room_18 : decode cX12_room 18 = .ok (.getfield 68, 3) := by decide +kernel
theorem dX12_room_21 : decode cX12_room 21 = .ok (.aload_n 0, 1) := by decide +kernel
theorem dX12_room_22 : decode cX12_room 22 = .ok (.iload_n 1, 1) := by decide +kernel
theorem dX12_room_23 : decode cX12_room 23 = .ok (.invokevirtual 84, 3) := by decide +kernel
theorem dX12_room_26 : decode cX12_room 26 = .ok (.isub, 1) := by decide +kernel
theorem dX12_room_27 : decode cX12_room 27 = .ok (.ireturn, 1) := by decide +kernel
theorem dX12_isFixed_0 : decode cX12_isFixed 0 = .ok (.iload_n 1, 1) := by decide +kernel
theorem dX12_isFixed_1 : decode cX12_isFixed 1 = .ok (.ifCond .le 24, 3) := by decide +kernel
theorem dX12_isFixed_4 : decode cX12_isFixed 4 = .ok (.iload_n 1, 1) := by decide +kernel
theorem dX12_isFixed_5 : decode cX12_isFixed 5 = .ok (.iconst 1, 1) := by decide +kernel
theorem dX12_isFixed_6 : decode cX12_isFixed 6 = .ok (.isub, 1) := by decide +kernel
theorem dX12_isFixed_7 : decode cX12_isFixed 7 = .ok (.aload_n 0, 1) := by decide +kernel
theorem dX12_isFixed_8 : decode cX12_isFixed 8 = .ok (.getfield 78, 3) := by decide +kernel
theorem dX12_isFixed_11 : decode cX12_isFixed 11 = .ok (.irem, 1) := by decide +kernel
theorem dX12_isFixed_12 : decode cX12_isFixed 12 = .ok (.iconst 4, 1) := by decide +kernel
theorem dX12_isFixed_13 : decode cX12_isFixed 13 = .ok (.aload_n 0, 1) := by decide +kernel
theorem dX12_isFixed_14 : decode cX12_isFixed 14 = .ok (.getfield 88, 3) := by decide +kernel
theorem dX12_isFixed_17 : decode cX12_isFixed 17 = .ok (.iadd, 1) := by decide +kernel
theorem dX12_isFixed_18 : decode cX12_isFixed 18 = .ok (.if_icmp .ge 7, 3) := by decide +kernel
theorem dX12_isFixed_21 : decode cX12_isFixed 21 = .ok (.iconst 1, 1) := by decide +kernel
theorem dX12_isFixed_22 : decode cX12_isFixed 22 = .ok (.goto 4, 3) := by decide +kernel
theorem dX12_isFixed_25 : decode cX12_isFixed 25 = .ok (.iconst 0, 1) := by decide +kernel
theorem dX12_isFixed_26 : decode cX12_isFixed 26 = .ok (.ireturn, 1) := by decide +kernel
theorem dX12_freeBlocks_0 : decode cX12_freeBlocks 0 = .ok (.iconst 0, 1) := by decide +kernel
theorem dX12_freeBlocks_1 : decode cX12_freeBlocks 1 = .ok (.istore_n 1, 1) := by decide +kernel
theorem dX12_freeBlocks_2 : decode cX12_freeBlocks 2 = .ok (.iconst 1, 1) := by decide +kernel
theorem dX12_freeBlocks_3 : decode cX12_freeBlocks 3 = .ok (.istore_n 2, 1) := by decide +kernel
theorem dX12_freeBlocks_4 : decode cX12_freeBlocks 4 = .ok (.iload_n 2, 1) := by decide +kernel
theorem dX12_freeBlocks_5 : decode cX12_freeBlocks 5 = .ok (.aload_n 0, 1) := by decide +kernel
theorem dX12_freeBlocks_6 : decode cX12_freeBlocks 6 = .ok (.getfield 68, 3) := by decide +kernel
theorem dX12_freeBlocks_9 : decode cX12_freeBlocks 9 = .ok (.if_icmp .ge 26, 3) := by decide +kernel
theorem dX12_freeBlocks_12 : decode cX12_freeBlocks 12 = .ok (.iload_n 1, 1) := by decide +kernel
theorem dX12_freeBlocks_13 : decode cX12_freeBlocks 13 = .ok (.aload_n 0, 1) := by decide +kernel
theorem dX12_freeBlocks_14 : decode cX12_freeBlocks 14 = .ok (.getfield 23, 3) := by decide +kernel
theorem dX12_freeBlocks_17 : decode cX12_freeBlocks 17 = .ok (.iload_n 2, 1) := by decide +kernel
theorem dX12_freeBlocks_18 : decode cX12_freeBlocks 18 = .ok (.baload, 1) := by decide +kernel
theorem dX12_freeBlocks_19 : decode cX12_freeBlocks 19 = .ok (.ifCond .eq 7, 3) := by decide +kernel
theorem dX12_freeBlocks_22 : decode cX12_freeBlocks 22 = .ok (.iconst 0, 1) := by decide +kernel
theorem dX12_freeBlocks_23 : decode cX12_freeBlocks 23 = .ok (.goto 4, 3) := by decide +kernel
theorem dX12_freeBlocks_26 : decode cX12_freeBlocks 26 = .ok (.iconst 1, 1) := by decide +kernel
theorem dX12_freeBlocks_27 : decode cX12_freeBlocks 27 = .ok (.iadd, 1) := by decide +kernel
theorem dX12_freeBlocks_28 : decode cX12_freeBlocks 28 = .ok (.istore_n 1, 1) := by decide +kernel
theorem dX12_freeBlocks_29 : decode cX12_freeBlocks 29 = .ok (.iinc 2 1, 3) := by decide +kernel
theorem dX12_freeBlocks_32 : decode cX12_freeBlocks 32 = .ok (.goto (-28), 3) := by decide +kernel
theorem dX12_freeBlocks_35 : decode cX12_freeBlocks 35 = .ok (.iload_n 1, 1) := by decide +kernel
theorem dX12_freeBlocks_36 : decode cX12_freeBlocks 36 = .ok (.ireturn, 1) := by decide +kernel
theorem dX12_freeInodes_0 : decode cX12_freeInodes 0 = .ok (.iconst 0, 1) := by decide +kernel
theorem dX12_freeInodes_1 : decode cX12_freeInodes 1 = .ok (.istore_n 1, 1) := by decide +kernel
theorem dX12_freeInodes_2 : decode cX12_freeInodes 2 = .ok (.iconst 1, 1) := by decide +kernel
theorem dX12_freeInodes_3 : decode cX12_freeInodes 3 = .ok (.istore_n 2, 1) := by decide +kernel
theorem dX12_freeInodes_4 : decode cX12_freeInodes 4 = .ok (.iload_n 2, 1) := by decide +kernel
theorem dX12_freeInodes_5 : decode cX12_freeInodes 5 = .ok (.aload_n 0, 1) := by decide +kernel
theorem dX12_freeInodes_6 : decode cX12_freeInodes 6 = .ok (.getfield 81, 3) := by decide +kernel
theorem dX12_freeInodes_9 : decode cX12_freeInodes 9 = .ok (.aload_n 0, 1) := by decide +kernel
theorem dX12_freeInodes_10 : decode cX12_freeInodes 10 = .ok (.getfield 91, 3) := by decide +kernel
theorem dX12_freeInodes_13 : decode cX12_freeInodes 13 = .ok (.imul, 1) := by decide +kernel
theorem dX12_freeInodes_14 : decode cX12_freeInodes 14 = .ok (.if_icmp .gt 26, 3) := by decide +kernel
theorem dX12_freeInodes_17 : decode cX12_freeInodes 17 = .ok (.iload_n 1, 1) := by decide +kernel
theorem dX12_freeInodes_18 : decode cX12_freeInodes 18 = .ok (.aload_n 0, 1) := by decide +kernel
theorem dX12_freeInodes_19 : decode cX12_freeInodes 19 = .ok (.getfield 31, 3) := by decide +kernel
theorem dX12_freeInodes_22 : decode cX12_freeInodes 22 = .ok (.iload_n 2, 1) := by decide +kernel
theorem dX12_freeInodes_23 : decode cX12_freeInodes 23 = .ok (.iaload, 1) := by decide +kernel
theorem dX12_freeInodes_24 : decode cX12_freeInodes 24 = .ok (.ifCond .ne 7, 3) := by decide +kernel
theorem dX12_freeInodes_27 : decode cX12_freeInodes 27 = .ok (.iconst 1, 1) := by decide +kernel
theorem dX12_freeInodes_28 : decode cX12_freeInodes 28 = .ok (.goto 4, 3) := by decide +kernel
theorem dX12_freeInodes_31 : decode cX12_freeInodes 31 = .ok (.iconst 0, 1) := by decide +kernel
theorem dX12_freeInodes_32 : decode cX12_freeInodes 32 = .ok (.iadd, 1) := by decide +kernel
theorem dX12_freeInodes_33 : decode cX12_freeInodes 33 = .ok (.istore_n 1, 1) := by decide +kernel
theorem dX12_freeInodes_34 : decode cX12_freeInodes 34 = .ok (.iinc 2 1, 3) := by decide +kernel
theorem dX12_freeInodes_37 : decode cX12_freeInodes 37 = .ok (.goto (-33), 3) := by decide +kernel
theorem dX12_freeInodes_40 : decode cX12_freeInodes 40 = .ok (.iload_n 1, 1) := by decide +kernel
theorem dX12_freeInodes_41 : decode cX12_freeInodes 41 = .ok (.ireturn, 1) := by decide +kernel
theorem dX12_take_0 : decode cX12_take 0 = .ok (.iconst 1, 1) := by decide +kernel
theorem dX12_take_1 : decode cX12_take 1 = .ok (.istore_n 1, 1) := by decide +kernel
theorem dX12_take_2 : decode cX12_take 2 = .ok (.aload_n 0, 1) := by decide +kernel
theorem dX12_take_3 : decode cX12_take 3 = .ok (.getfield 23, 3) := by decide +kernel
theorem dX12_take_6 : decode cX12_take 6 = .ok (.iload_n 1, 1) := by decide +kernel
theorem dX12_take_7 : decode cX12_take 7 = .ok (.baload, 1) := by decide +kernel
theorem dX12_take_8 : decode cX12_take 8 = .ok (.ifCond .eq 9, 3) := by decide +kernel
theorem dX12_take_11 : decode cX12_take 11 = .ok (.iinc 1 1, 3) := by decide +kernel
theorem dX12_take_14 : decode cX12_take 14 = .ok (.goto (-12), 3) := by decide +kernel
theorem dX12_take_17 : decode cX12_take 17 = .ok (.aload_n 0, 1) := by decide +kernel
theorem dX12_take_18 : decode cX12_take 18 = .ok (.getfield 23, 3) := by decide +kernel
theorem dX12_take_21 : decode cX12_take 21 = .ok (.iload_n 1, 1) := by decide +kernel
theorem dX12_take_22 : decode cX12_take 22 = .ok (.iconst 1, 1) := by decide +kernel
theorem dX12_take_23 : decode cX12_take 23 = .ok (.bastore, 1) := by decide +kernel
theorem dX12_take_24 : decode cX12_take 24 = .ok (.aload_n 0, 1) := by decide +kernel
theorem dX12_take_25 : decode cX12_take 25 = .ok (.getfield 27, 3) := by decide +kernel
theorem dX12_take_28 : decode cX12_take 28 = .ok (.iload_n 1, 1) := by decide +kernel
theorem dX12_take_29 : decode cX12_take 29 = .ok (.iconst 0, 1) := by decide +kernel
theorem dX12_take_30 : decode cX12_take 30 = .ok (.iastore, 1) := by decide +kernel
theorem dX12_take_31 : decode cX12_take 31 = .ok (.iconst 0, 1) := by decide +kernel
theorem dX12_take_32 : decode cX12_take 32 = .ok (.istore_n 2, 1) := by decide +kernel
theorem dX12_take_33 : decode cX12_take 33 = .ok (.iload_n 2, 1) := by decide +kernel
theorem dX12_take_34 : decode cX12_take 34 = .ok (.sipush 1024, 3) := by decide +kernel
theorem dX12_take_37 : decode cX12_take 37 = .ok (.if_icmp .ge 22, 3) := by decide +kernel
theorem dX12_take_40 : decode cX12_take 40 = .ok (.aload_n 0, 1) := by decide +kernel
theorem dX12_take_41 : decode cX12_take 41 = .ok (.getfield 8, 3) := by decide +kernel
theorem dX12_take_44 : decode cX12_take 44 = .ok (.sipush 1024, 3) := by decide +kernel
theorem dX12_take_47 : decode cX12_take 47 = .ok (.iload_n 1, 1) := by decide +kernel
theorem dX12_take_48 : decode cX12_take 48 = .ok (.imul, 1) := by decide +kernel
theorem dX12_take_49 : decode cX12_take 49 = .ok (.iload_n 2, 1) := by decide +kernel
theorem dX12_take_50 : decode cX12_take 50 = .ok (.iadd, 1) := by decide +kernel
theorem dX12_take_51 : decode cX12_take 51 = .ok (.iconst 0, 1) := by decide +kernel
theorem dX12_take_52 : decode cX12_take 52 = .ok (.bastore, 1) := by decide +kernel
theorem dX12_take_53 : decode cX12_take 53 = .ok (.iinc 2 1, 3) := by decide +kernel
theorem dX12_take_56 : decode cX12_take 56 = .ok (.goto (-23), 3) := by decide +kernel
theorem dX12_take_59 : decode cX12_take 59 = .ok (.iload_n 1, 1) := by decide +kernel
theorem dX12_take_60 : decode cX12_take 60 = .ok (.ireturn, 1) := by decide +kernel
theorem dX12_all_0 : decode cX12_all 0 = .ok (.iload_n 0, 1) := by decide +kernel
theorem dX12_all_1 : decode cX12_all 1 = .ok (.iload_n 0, 1) := by decide +kernel
theorem dX12_all_2 : decode cX12_all 2 = .ok (.bipush 12, 2) := by decide +kernel
theorem dX12_all_4 : decode cX12_all 4 = .ok (.if_icmp .le 7, 3) := by decide +kernel
theorem dX12_all_7 : decode cX12_all 7 = .ok (.iconst 1, 1) := by decide +kernel
theorem dX12_all_8 : decode cX12_all 8 = .ok (.goto 4, 3) := by decide +kernel
theorem dX12_all_11 : decode cX12_all 11 = .ok (.iconst 0, 1) := by decide +kernel
theorem dX12_all_12 : decode cX12_all 12 = .ok (.iadd, 1) := by decide +kernel
theorem dX12_all_13 : decode cX12_all 13 = .ok (.iload_n 0, 1) := by decide +kernel
theorem dX12_all_14 : decode cX12_all 14 = .ok (.sipush 268, 3) := by decide +kernel
theorem dX12_all_17 : decode cX12_all 17 = .ok (.if_icmp .le 19, 3) := by decide +kernel
theorem dX12_all_20 : decode cX12_all 20 = .ok (.iconst 1, 1) := by decide +kernel
theorem dX12_all_21 : decode cX12_all 21 = .ok (.iload_n 0, 1) := by decide +kernel
theorem dX12_all_22 : decode cX12_all 22 = .ok (.sipush 268, 3) := by decide +kernel
theorem dX12_all_25 : decode cX12_all 25 = .ok (.isub, 1) := by decide +kernel
theorem dX12_all_26 : decode cX12_all 26 = .ok (.sipush 256, 3) := by decide +kernel
theorem dX12_all_29 : decode cX12_all 29 = .ok (.invokestatic 94, 3) := by decide +kernel
theorem dX12_all_32 : decode cX12_all 32 = .ok (.iadd, 1) := by decide +kernel
theorem dX12_all_33 : decode cX12_all 33 = .ok (.goto 4, 3) := by decide +kernel
theorem dX12_all_36 : decode cX12_all 36 = .ok (.iconst 0, 1) := by decide +kernel
theorem dX12_all_37 : decode cX12_all 37 = .ok (.iadd, 1) := by decide +kernel
theorem dX12_all_38 : decode cX12_all 38 = .ok (.ireturn, 1) := by decide +kernel
theorem dX12_gain_0 : decode cX12_gain 0 = .ok (.aload_n 0, 1) := by decide +kernel
theorem dX12_gain_1 : decode cX12_gain 1 = .ok (.getfield 40, 3) := by decide +kernel
theorem dX12_gain_4 : decode cX12_gain 4 = .ok (.iload_n 1, 1) := by decide +kernel
theorem dX12_gain_5 : decode cX12_gain 5 = .ok (.iaload, 1) := by decide +kernel
theorem dX12_gain_6 : decode cX12_gain 6 = .ok (.istore_n 2, 1) := by decide +kernel
theorem dX12_gain_7 : decode cX12_gain 7 = .ok (.iload_n 2, 1) := by decide +kernel
theorem dX12_gain_8 : decode cX12_gain 8 = .ok (.bipush 12, 2) := by decide +kernel
theorem dX12_gain_10 : decode cX12_gain 10 = .ok (.if_icmp .ne 13, 3) := by decide +kernel
theorem dX12_gain_13 : decode cX12_gain 13 = .ok (.aload_n 0, 1) := by decide +kernel
theorem dX12_gain_14 : decode cX12_gain 14 = .ok (.getfield 49, 3) := by decide +kernel
theorem dX12_gain_17 : decode cX12_gain 17 = .ok (.iload_n 1, 1) := by decide +kernel
theorem dX12_gain_18 : decode cX12_gain 18 = .ok (.aload_n 0, 1) := by decide +kernel
theorem dX12_gain_19 : decode cX12_gain 19 = .ok (.invokevirtual 98, 3) := by decide +kernel
theorem dX12_gain_22 : decode cX12_gain 22 = .ok (.iastore, 1) := by decide +kernel
theorem dX12_gain_23 : decode cX12_gain 23 = .ok (.iload_n 2, 1) := by decide +kernel
theorem dX12_gain_24 : decode cX12_gain 24 = .ok (.sipush 268, 3) := by decide +kernel
theorem dX12_gain_27 : decode cX12_gain 27 = .ok (.if_icmp .ne 13, 3) := by decide +kernel
theorem dX12_gain_30 : decode cX12_gain 30 = .ok (.aload_n 0, 1) := by decide +kernel
theorem dX12_gain_31 : decode cX12_gain 31 = .ok (.getfield 52, 3) := by decide +kernel
theorem dX12_gain_34 : decode cX12_gain 34 = .ok (.iload_n 1, 1) := by decide +kernel
theorem dX12_gain_35 : decode cX12_gain 35 = .ok (.aload_n 0, 1) := by decide +kernel
theorem dX12_gain_36 : decode cX12_gain 36 = .ok (.invokevirtual 98, 3) := by decide +kernel
theorem dX12_gain_39 : decode cX12_gain 39 = .ok (.iastore, 1) := by decide +kernel
theorem dX12_gain_40 : decode cX12_gain 40 = .ok (.iload_n 2, 1) := by decide +kernel
theorem dX12_gain_41 : decode cX12_gain 41 = .ok (.sipush 268, 3) := by decide +kernel
theorem dX12_gain_44 : decode cX12_gain 44 = .ok (.if_icmp .lt 80, 3) := by decide +kernel
theorem dX12_gain_47 : decode cX12_gain 47 = .ok (.iload_n 2, 1) := by decide +kernel
theorem dX12_gain_48 : decode cX12_gain 48 = .ok (.sipush 268, 3) := by decide +kernel
theorem dX12_gain_51 : decode cX12_gain 51 = .ok (.isub, 1) := by decide +kernel
theorem dX12_gain_52 : decode cX12_gain 52 = .ok (.sipush 256, 3) := by decide +kernel
theorem dX12_gain_55 : decode cX12_gain 55 = .ok (.irem, 1) := by decide +kernel
theorem dX12_gain_56 : decode cX12_gain 56 = .ok (.ifCond .ne 68, 3) := by decide +kernel
theorem dX12_gain_59 : decode cX12_gain 59 = .ok (.aload_n 0, 1) := by decide +kernel
theorem dX12_gain_60 : decode cX12_gain 60 = .ok (.invokevirtual 98, 3) := by decide +kernel
theorem dX12_gain_63 : decode cX12_gain 63 = .ok (.istore_n 3, 1) := by decide +kernel
theorem dX12_gain_64 : decode cX12_gain 64 = .ok (.aload_n 0, 1) := by decide +kernel
theorem dX12_gain_65 : decode cX12_gain 65 = .ok (.getfield 55, 3) := by decide +kernel
theorem dX12_gain_68 : decode cX12_gain 68 = .ok (.iload_n 1, 1) := by decide +kernel
theorem dX12_gain_69 : decode cX12_gain 69 = .ok (.iaload, 1) := by decide +kernel
theorem dX12_gain_70 : decode cX12_gain 70 = .ok (.istore 4, 2) := by decide +kernel
theorem dX12_gain_72 : decode cX12_gain 72 = .ok (.iload 4, 2) := by decide +kernel
theorem dX12_gain_74 : decode cX12_gain 74 = .ok (.ifCond .ne 10, 3) := by decide +kernel
theorem dX12_gain_77 : decode cX12_gain 77 = .ok (.aload_n 0, 1) := by decide +kernel
theorem dX12_gain_78 : decode cX12_gain 78 = .ok (.getfield 55, 3) := by decide +kernel
theorem dX12_gain_81 : decode cX12_gain 81 = .ok (.iload_n 1, 1) := by decide +kernel
theorem dX12_gain_82 : decode cX12_gain 82 = .ok (.iload_n 3, 1) := by decide +kernel
theorem dX12_gain_83 : decode cX12_gain 83 = .ok (.iastore, 1) := by decide +kernel
theorem dX12_gain_84 : decode cX12_gain 84 = .ok (.iload 4, 2) := by decide +kernel
theorem dX12_gain_86 : decode cX12_gain 86 = .ok (.ifCond .eq 25, 3) := by decide +kernel
theorem dX12_gain_89 : decode cX12_gain 89 = .ok (.aload_n 0, 1) := by decide +kernel
theorem dX12_gain_90 : decode cX12_gain 90 = .ok (.getfield 27, 3) := by decide +kernel
theorem dX12_gain_93 : decode cX12_gain 93 = .ok (.iload 4, 2) := by decide +kernel
theorem dX12_gain_95 : decode cX12_gain 95 = .ok (.iaload, 1) := by decide +kernel
theorem dX12_gain_96 : decode cX12_gain 96 = .ok (.ifCond .eq 15, 3) := by decide +kernel
theorem dX12_gain_99 : decode cX12_gain 99 = .ok (.aload_n 0, 1) := by decide +kernel
theorem dX12_gain_100 : decode cX12_gain 100 = .ok (.getfield 27, 3) := by decide +kernel
theorem dX12_gain_103 : decode cX12_gain 103 = .ok (.iload 4, 2) := by decide +kernel
theorem dX12_gain_105 : decode cX12_gain 105 = .ok (.iaload, 1) := by decide +kernel
theorem dX12_gain_106 : decode cX12_gain 106 = .ok (.istore 4, 2) := by decide +kernel
theorem dX12_gain_108 : decode cX12_gain 108 = .ok (.goto (-24), 3) := by decide +kernel
theorem dX12_gain_111 : decode cX12_gain 111 = .ok (.iload 4, 2) := by decide +kernel
theorem dX12_gain_113 : decode cX12_gain 113 = .ok (.ifCond .eq 11, 3) := by decide +kernel
theorem dX12_gain_116 : decode cX12_gain 116 = .ok (.aload_n 0, 1) := by decide +kernel
theorem dX12_gain_117 : decode cX12_gain 117 = .ok (.getfield 27, 3) := by decide +kernel
theorem dX12_gain_120 : decode cX12_gain 120 = .ok (.iload 4, 2) := by decide +kernel
theorem dX12_gain_122 : decode cX12_gain 122 = .ok (.iload_n 3, 1) := by decide +kernel
theorem dX12_gain_123 : decode cX12_gain 123 = .ok (.iastore, 1) := by decide +kernel
theorem dX12_gain_124 : decode cX12_gain 124 = .ok (.aload_n 0, 1) := by decide +kernel
theorem dX12_gain_125 : decode cX12_gain 125 = .ok (.invokevirtual 98, 3) := by decide +kernel
theorem dX12_gain_128 : decode cX12_gain 128 = .ok (.istore_n 3, 1) := by decide +kernel
theorem dX12_gain_129 : decode cX12_gain 129 = .ok (.iload_n 2, 1) := by decide +kernel
theorem dX12_gain_130 : decode cX12_gain 130 = .ok (.ifCond .ne 13, 3) := by decide +kernel
theorem dX12_gain_133 : decode cX12_gain 133 = .ok (.aload_n 0, 1) := by decide +kernel
theorem dX12_gain_134 : decode cX12_gain 134 = .ok (.getfield 43, 3) := by decide +kernel
theorem dX12_gain_137 : decode cX12_gain 137 = .ok (.iload_n 1, 1) := by decide +kernel
theorem dX12_gain_138 : decode cX12_gain 138 = .ok (.iload_n 3, 1) := by decide +kernel
theorem dX12_gain_139 : decode cX12_gain 139 = .ok (.iastore, 1) := by decide +kernel
theorem dX12_gain_140 : decode cX12_gain 140 = .ok (.goto 15, 3) := by decide +kernel
theorem dX12_gain_143 : decode cX12_gain 143 = .ok (.aload_n 0, 1) := by decide +kernel
theorem dX12_gain_144 : decode cX12_gain 144 = .ok (.getfield 27, 3) := by decide +kernel
theorem dX12_gain_147 : decode cX12_gain 147 = .ok (.aload_n 0, 1) := by decide +kernel
theorem dX12_gain_148 : decode cX12_gain 148 = .ok (.getfield 46, 3) := by decide +kernel
theorem dX12_gain_151 : decode cX12_gain 151 = .ok (.iload_n 1, 1) := by decide +kernel
theorem dX12_gain_152 : decode cX12_gain 152 = .ok (.iaload, 1) := by decide +kernel
theorem dX12_gain_153 : decode cX12_gain 153 = .ok (.iload_n 3, 1) := by decide +kernel
theorem dX12_gain_154 : decode cX12_gain 154 = .ok (.iastore, 1) := by decide +kernel
theorem dX12_gain_155 : decode cX12_gain 155 = .ok (.aload_n 0, 1) := by decide +kernel
theorem dX12_gain_156 : decode cX12_gain 156 = .ok (.getfield 46, 3) := by decide +kernel
theorem dX12_gain_159 : decode cX12_gain 159 = .ok (.iload_n 1, 1) := by decide +kernel
theorem dX12_gain_160 : decode cX12_gain 160 = .ok (.iload_n 3, 1) := by decide +kernel
theorem dX12_gain_161 : decode cX12_gain 161 = .ok (.iastore, 1) := by decide +kernel
theorem dX12_gain_162 : decode cX12_gain 162 = .ok (.aload_n 0, 1) := by decide +kernel
theorem dX12_gain_163 : decode cX12_gain 163 = .ok (.getfield 40, 3) := by decide +kernel
theorem dX12_gain_166 : decode cX12_gain 166 = .ok (.iload_n 1, 1) := by decide +kernel
theorem dX12_gain_167 : decode cX12_gain 167 = .ok (.dup2, 1) := by decide +kernel
theorem dX12_gain_168 : decode cX12_gain 168 = .ok (.iaload, 1) := by decide +kernel
theorem dX12_gain_169 : decode cX12_gain 169 = .ok (.iconst 1, 1) := by decide +kernel
theorem dX12_gain_170 : decode cX12_gain 170 = .ok (.iadd, 1) := by decide +kernel
theorem dX12_gain_171 : decode cX12_gain 171 = .ok (.iastore, 1) := by decide +kernel
theorem dX12_gain_172 : decode cX12_gain 172 = .ok (.return_, 1) := by decide +kernel
theorem dX12_blockOf_0 : decode cX12_blockOf 0 = .ok (.aload_n 0, 1) := by decide +kernel
theorem dX12_blockOf_1 : decode cX12_blockOf 1 = .ok (.getfield 43, 3) := by decide +kernel
theorem dX12_blockOf_4 : decode cX12_blockOf 4 = .ok (.iload_n 1, 1) := by decide +kernel
theorem dX12_blockOf_5 : decode cX12_blockOf 5 = .ok (.iaload, 1) := by decide +kernel
theorem dX12_blockOf_6 : decode cX12_blockOf 6 = .ok (.istore_n 3, 1) := by decide +kernel
theorem dX12_blockOf_7 : decode cX12_blockOf 7 = .ok (.iconst 0, 1) := by decide +kernel
theorem dX12_blockOf_8 : decode cX12_blockOf 8 = .ok (.istore 4, 2) := by decide +kernel
theorem dX12_blockOf_10 : decode cX12_blockOf 10 = .ok (.iload 4, 2) := by decide +kernel
theorem dX12_blockOf_12 : decode cX12_blockOf 12 = .ok (.iload_n 2, 1) := by decide +kernel
theorem dX12_blockOf_13 : decode cX12_blockOf 13 = .ok (.if_icmp .ge 16, 3) := by decide +kernel
theorem dX12_blockOf_16 : decode cX12_blockOf 16 = .ok (.aload_n 0, 1) := by decide +kernel
theorem dX12_blockOf_17 : decode cX12_blockOf 17 = .ok (.getfield 27, 3) := by decide +kernel
theorem dX12_blockOf_20 : decode cX12_blockOf 20 = .ok (.iload_n 3, 1) := by decide +kernel
theorem dX12_blockOf_21 : decode cX12_blockOf 21 = .ok (.iaload, 1) := by decide +kernel
theorem dX12_blockOf_22 : decode cX12_blockOf 22 = .ok (.istore_n 3, 1) := by decide +kernel
theorem dX12_blockOf_23 : decode cX12_blockOf 23 = .ok (.iinc 4 1, 3) := by decide +kernel
theorem dX12_blockOf_26 : decode cX12_blockOf 26 = .ok (.goto (-16), 3) := by decide +kernel
theorem dX12_blockOf_29 : decode cX12_blockOf 29 = .ok (.iload_n 3, 1) := by decide +kernel
theorem dX12_blockOf_30 : decode cX12_blockOf 30 = .ok (.ireturn, 1) := by decide +kernel
theorem dX12_keep_0 : decode cX12_keep 0 = .ok (.aload_n 0, 1) := by decide +kernel
theorem dX12_keep_1 : decode cX12_keep 1 = .ok (.getfield 43, 3) := by decide +kernel
theorem dX12_keep_4 : decode cX12_keep 4 = .ok (.iload_n 1, 1) := by decide +kernel
theorem dX12_keep_5 : decode cX12_keep 5 = .ok (.iaload, 1) := by decide +kernel
theorem dX12_keep_6 : decode cX12_keep 6 = .ok (.istore_n 3, 1) := by decide +kernel
theorem dX12_keep_7 : decode cX12_keep 7 = .ok (.iconst 0, 1) := by decide +kernel
theorem dX12_keep_8 : decode cX12_keep 8 = .ok (.istore 4, 2) := by decide +kernel
theorem dX12_keep_10 : decode cX12_keep 10 = .ok (.iload 4, 2) := by decide +kernel
theorem dX12_keep_12 : decode cX12_keep 12 = .ok (.aload_n 0, 1) := by decide +kernel
theorem dX12_keep_13 : decode cX12_keep 13 = .ok (.getfield 40, 3) := by decide +kernel
theorem dX12_keep_16 : decode cX12_keep 16 = .ok (.iload_n 1, 1) := by decide +kernel
theorem dX12_keep_17 : decode cX12_keep 17 = .ok (.iaload, 1) := by decide +kernel
theorem dX12_keep_18 : decode cX12_keep 18 = .ok (.if_icmp .ge 44, 3) := by decide +kernel
theorem dX12_keep_21 : decode cX12_keep 21 = .ok (.iload 4, 2) := by decide +kernel
theorem dX12_keep_23 : decode cX12_keep 23 = .ok (.iload_n 2, 1) := by decide +kernel
theorem dX12_keep_24 : decode cX12_keep 24 = .ok (.if_icmp .lt 10, 3) := by decide +kernel
theorem dX12_keep_27 : decode cX12_keep 27 = .ok (.aload_n 0, 1) := by decide +kernel
theorem dX12_keep_28 : decode cX12_keep 28 = .ok (.getfield 23, 3) := by decide +kernel
theorem dX12_keep_31 : decode cX12_keep 31 = .ok (.iload_n 3, 1) := by decide +kernel
theorem dX12_keep_32 : decode cX12_keep 32 = .ok (.iconst 0, 1) := by decide +kernel
theorem dX12_keep_33 : decode cX12_keep 33 = .ok (.bastore, 1) := by decide +kernel
theorem dX12_keep_34 : decode cX12_keep 34 = .ok (.iload 4, 2) := by decide +kernel
theorem dX12_keep_36 : decode cX12_keep 36 = .ok (.iload_n 2, 1) := by decide +kernel
theorem dX12_keep_37 : decode cX12_keep 37 = .ok (.iconst 1, 1) := by decide +kernel
theorem dX12_keep_38 : decode cX12_keep 38 = .ok (.isub, 1) := by decide +kernel
theorem dX12_keep_39 : decode cX12_keep 39 = .ok (.if_icmp .ne 10, 3) := by decide +kernel
theorem dX12_keep_42 : decode cX12_keep 42 = .ok (.aload_n 0, 1) := by decide +kernel
theorem dX12_keep_43 : decode cX12_keep 43 = .ok (.getfield 46, 3) := by decide +kernel
theorem dX12_keep_46 : decode cX12_keep 46 = .ok (.iload_n 1, 1) := by decide +kernel
theorem dX12_keep_47 : decode cX12_keep 47 = .ok (.iload_n 3, 1) := by decide +kernel
theorem dX12_keep_48 : decode cX12_keep 48 = .ok (.iastore, 1) := by decide +kernel
theorem dX12_keep_49 : decode cX12_keep 49 = .ok (.aload_n 0, 1) := by decide +kernel
theorem dX12_keep_50 : decode cX12_keep 50 = .ok (.getfield 27, 3) := by decide +kernel
theorem dX12_keep_53 : decode cX12_keep 53 = .ok (.iload_n 3, 1) := by decide +kernel
theorem dX12_keep_54 : decode cX12_keep 54 = .ok (.iaload, 1) := by decide +kernel
theorem dX12_keep_55 : decode cX12_keep 55 = .ok (.istore_n 3, 1) := by decide +kernel
theorem dX12_keep_56 : decode cX12_keep 56 = .ok (.iinc 4 1, 3) := by decide +kernel
theorem dX12_keep_59 : decode cX12_keep 59 = .ok (.goto (-49), 3) := by decide +kernel
theorem dX12_keep_62 : decode cX12_keep 62 = .ok (.aload_n 0, 1) := by decide +kernel
theorem dX12_keep_63 : decode cX12_keep 63 = .ok (.getfield 55, 3) := by decide +kernel
theorem dX12_keep_66 : decode cX12_keep 66 = .ok (.iload_n 1, 1) := by decide +kernel
theorem dX12_keep_67 : decode cX12_keep 67 = .ok (.iaload, 1) := by decide +kernel
theorem dX12_keep_68 : decode cX12_keep 68 = .ok (.istore 4, 2) := by decide +kernel
theorem dX12_keep_70 : decode cX12_keep 70 = .ok (.iload_n 2, 1) := by decide +kernel
theorem dX12_keep_71 : decode cX12_keep 71 = .ok (.sipush 268, 3) := by decide +kernel
theorem dX12_keep_74 : decode cX12_keep 74 = .ok (.if_icmp .le 17, 3) := by decide +kernel
theorem dX12_keep_77 : decode cX12_keep 77 = .ok (.iload_n 2, 1) := by decide +kernel
theorem dX12_keep_78 : decode cX12_keep 78 = .ok (.sipush 268, 3) := by decide +kernel
theorem dX12_keep_81 : decode cX12_keep 81 = .ok (.isub, 1) := by decide +kernel
theorem dX12_keep_82 : decode cX12_keep 82 = .ok (.sipush 256, 3) := by decide +kernel
theorem dX12_keep_85 : decode cX12_keep 85 = .ok (.invokestatic 94, 3) := by decide +kernel
theorem dX12_keep_88 : decode cX12_keep 88 = .ok (.goto 4, 3) := by decide +kernel
theorem dX12_keep_91 : decode cX12_keep 91 = .ok (.iconst 0, 1) := by decide +kernel
theorem dX12_keep_92 : decode cX12_keep 92 = .ok (.istore 5, 2) := by decide +kernel
theorem dX12_keep_94 : decode cX12_keep 94 = .ok (.iconst 0, 1) := by decide +kernel
theorem dX12_keep_95 : decode cX12_keep 95 = .ok (.istore 6, 2) := by decide +kernel
theorem dX12_keep_97 : decode cX12_keep 97 = .ok (.iconst 0, 1) := by decide +kernel
theorem dX12_keep_98 : decode cX12_keep 98 = .ok (.istore 7, 2) := by decide +kernel
theorem dX12_keep_100 : decode cX12_keep 100 = .ok (.iload 4, 2) := by decide +kernel
theorem dX12_keep_102 : decode cX12_keep 102 = .ok (.ifCond .eq 46, 3) := by decide +kernel
theorem dX12_keep_105 : decode cX12_keep 105 = .ok (.iload 6, 2) := by decide +kernel
theorem dX12_keep_107 : decode cX12_keep 107 = .ok (.iload 5, 2) := by decide +kernel
theorem dX12_keep_109 : decode cX12_keep 109 = .ok (.if_icmp .lt 11, 3) := by decide +kernel
theorem dX12_keep_112 : decode cX12_keep 112 = .ok (.aload_n 0, 1) := by decide +kernel
theorem dX12_keep_113 : decode cX12_keep 113 = .ok (.getfield 23, 3) := by decide +kernel
theorem dX12_keep_116 : decode cX12_keep 116 = .ok (.iload 4, 2) := by decide +kernel
theorem dX12_keep_118 : decode cX12_keep 118 = .ok (.iconst 0, 1) := by decide +kernel
theorem dX12_keep_119 : decode cX12_keep 119 = .ok (.bastore, 1) := by decide +kernel
theorem dX12_keep_120 : decode cX12_keep 120 = .ok (.iload 6, 2) := by decide +kernel
theorem dX12_keep_122 : decode cX12_keep 122 = .ok (.iload 5, 2) := by decide +kernel
theorem dX12_keep_124 : decode cX12_keep 124 = .ok (.iconst 1, 1) := by decide +kernel
theorem dX12_keep_125 : decode cX12_keep 125 = .ok (.isub, 1) := by decide +kernel
theorem dX12_keep_126 : decode cX12_keep 126 = .ok (.if_icmp .ne 7, 3) := by decide +kernel
theorem dX12_keep_129 : decode cX12_keep 129 = .ok (.iload 4, 2) := by decide +kernel
theorem dX12_keep_131 : decode cX12_keep 131 = .ok (.istore 7, 2) := by decide +kernel
theorem dX12_keep_133 : decode cX12_keep 133 = .ok (.iinc 6 1, 3) := by decide +kernel
theorem dX12_keep_136 : decode cX12_keep 136 = .ok (.aload_n 0, 1) := by decide +kernel
theorem dX12_keep_137 : decode cX12_keep 137 = .ok (.getfield 27, 3) := by decide +kernel
theorem dX12_keep_140 : decode cX12_keep 140 = .ok (.iload 4, 2) := by decide +kernel
theorem dX12_keep_142 : decode cX12_keep 142 = .ok (.iaload, 1) := by decide +kernel
theorem dX12_keep_143 : decode cX12_keep 143 = .ok (.istore 4, 2) := by decide +kernel
theorem dX12_keep_145 : decode cX12_keep 145 = .ok (.goto (-45), 3) := by decide +kernel
theorem dX12_keep_148 : decode cX12_keep 148 = .ok (.iload 7, 2) := by decide +kernel
theorem dX12_keep_150 : decode cX12_keep 150 = .ok (.ifCond .eq 11, 3) := by decide +kernel
theorem dX12_keep_153 : decode cX12_keep 153 = .ok (.aload_n 0, 1) := by decide +kernel
theorem dX12_keep_154 : decode cX12_keep 154 = .ok (.getfield 27, 3) := by decide +kernel
theorem dX12_keep_157 : decode cX12_keep 157 = .ok (.iload 7, 2) := by decide +kernel
theorem dX12_keep_159 : decode cX12_keep 159 = .ok (.iconst 0, 1) := by decide +kernel
theorem dX12_keep_160 : decode cX12_keep 160 = .ok (.iastore, 1) := by decide +kernel
theorem dX12_keep_161 : decode cX12_keep 161 = .ok (.aload_n 0, 1) := by decide +kernel
theorem dX12_keep_162 : decode cX12_keep 162 = .ok (.getfield 55, 3) := by decide +kernel
theorem dX12_keep_165 : decode cX12_keep 165 = .ok (.iload_n 1, 1) := by decide +kernel
theorem dX12_keep_166 : decode cX12_keep 166 = .ok (.iload 5, 2) := by decide +kernel
theorem dX12_keep_168 : decode cX12_keep 168 = .ok (.ifCond .ne 7, 3) := by decide +kernel
theorem dX12_keep_171 : decode cX12_keep 171 = .ok (.iconst 0, 1) := by decide +kernel
theorem dX12_keep_172 : decode cX12_keep 172 = .ok (.goto 9, 3) := by decide +kernel
theorem dX12_keep_175 : decode cX12_keep 175 = .ok (.aload_n 0, 1) := by decide +kernel
theorem dX12_keep_176 : decode cX12_keep 176 = .ok (.getfield 55, 3) := by decide +kernel
theorem dX12_keep_179 : decode cX12_keep 179 = .ok (.iload_n 1, 1) := by decide +kernel
theorem dX12_keep_180 : decode cX12_keep 180 = .ok (.iaload, 1) := by decide +kernel
theorem dX12_keep_181 : decode cX12_keep 181 = .ok (.iastore, 1) := by decide +kernel
theorem dX12_keep_182 : decode cX12_keep 182 = .ok (.iload_n 2, 1) := by decide +kernel
theorem dX12_keep_183 : decode cX12_keep 183 = .ok (.bipush 12, 2) := by decide +kernel
theorem dX12_keep_185 : decode cX12_keep 185 = .ok (.if_icmp .gt 31, 3) := by decide +kernel
theorem dX12_keep_188 : decode cX12_keep 188 = .ok (.aload_n 0, 1) := by decide +kernel
theorem dX12_keep_189 : decode cX12_keep 189 = .ok (.getfield 49, 3) := by decide +kernel
theorem dX12_keep_192 : decode cX12_keep 192 = .ok (.iload_n 1, 1) := by decide +kernel
theorem dX12_keep_193 : decode cX12_keep 193 = .ok (.iaload, 1) := by decide +kernel
theorem dX12_keep_194 : decode cX12_keep 194 = .ok (.ifCond .eq 22, 3) := by decide +kernel
theorem dX12_keep_197 : decode cX12_keep 197 = .ok (.aload_n 0, 1) := by decide +kernel
theorem dX12_keep_198 : decode cX12_keep 198 = .ok (.getfield 23, 3) := by decide +kernel
theorem dX12_keep_201 : decode cX12_keep 201 = .ok (.aload_n 0, 1) := by decide +kernel
theorem dX12_keep_202 : decode cX12_keep 202 = .ok (.getfield 49, 3) := by decide +kernel
theorem dX12_keep_205 : decode cX12_keep 205 = .ok (.iload_n 1, 1) := by decide +kernel
theorem dX12_keep_206 : decode cX12_keep 206 = .ok (.iaload, 1) := by decide +kernel
theorem dX12_keep_207 : decode cX12_keep 207 = .ok (.iconst 0, 1) := by decide +kernel
theorem dX12_keep_208 : decode cX12_keep 208 = .ok (.bastore, 1) := by decide +kernel
theorem dX12_keep_209 : decode cX12_keep 209 = .ok (.aload_n 0, 1) := by decide +kernel
theorem dX12_keep_210 : decode cX12_keep 210 = .ok (.getfield 49, 3) := by decide +kernel
theorem dX12_keep_213 : decode cX12_keep 213 = .ok (.iload_n 1, 1) := by decide +kernel
theorem dX12_keep_214 : decode cX12_keep 214 = .ok (.iconst 0, 1) := by decide +kernel
theorem dX12_keep_215 : decode cX12_keep 215 = .ok (.iastore, 1) := by decide +kernel
theorem dX12_keep_216 : decode cX12_keep 216 = .ok (.iload_n 2, 1) := by decide +kernel
theorem dX12_keep_217 : decode cX12_keep 217 = .ok (.sipush 268, 3) := by decide +kernel
theorem dX12_keep_220 : decode cX12_keep 220 = .ok (.if_icmp .gt 31, 3) := by decide +kernel
theorem dX12_keep_223 : decode cX12_keep 223 = .ok (.aload_n 0, 1) := by decide +kernel
theorem dX12_keep_224 : decode cX12_keep 224 = .ok (.getfield 52, 3) := by decide +kernel
theorem dX12_keep_227 : decode cX12_keep 227 = .ok (.iload_n 1, 1) := by decide +kernel
theorem dX12_keep_228 : decode cX12_keep 228 = .ok (.iaload, 1) := by decide +kernel
theorem dX12_keep_229 : decode cX12_keep 229 = .ok (.ifCond .eq 22, 3) := by decide +kernel
theorem dX12_keep_232 : decode cX12_keep 232 = .ok (.aload_n 0, 1) := by decide +kernel
theorem dX12_keep_233 : decode cX12_keep 233 = .ok (.getfield 23, 3) := by decide +kernel
theorem dX12_keep_236 : decode cX12_keep 236 = .ok (.aload_n 0, 1) := by decide +kernel
theorem dX12_keep_237 : decode cX12_keep 237 = .ok (.getfield 52, 3) := by decide +kernel
theorem dX12_keep_240 : decode cX12_keep 240 = .ok (.iload_n 1, 1) := by decide +kernel
theorem dX12_keep_241 : decode cX12_keep 241 = .ok (.iaload, 1) := by decide +kernel
theorem dX12_keep_242 : decode cX12_keep 242 = .ok (.iconst 0, 1) := by decide +kernel
theorem dX12_keep_243 : decode cX12_keep 243 = .ok (.bastore, 1) := by decide +kernel
theorem dX12_keep_244 : decode cX12_keep 244 = .ok (.aload_n 0, 1) := by decide +kernel
theorem dX12_keep_245 : decode cX12_keep 245 = .ok (.getfield 52, 3) := by decide +kernel
theorem dX12_keep_248 : decode cX12_keep 248 = .ok (.iload_n 1, 1) := by decide +kernel
theorem dX12_keep_249 : decode cX12_keep 249 = .ok (.iconst 0, 1) := by decide +kernel
theorem dX12_keep_250 : decode cX12_keep 250 = .ok (.iastore, 1) := by decide +kernel
theorem dX12_keep_251 : decode cX12_keep 251 = .ok (.aload_n 0, 1) := by decide +kernel
theorem dX12_keep_252 : decode cX12_keep 252 = .ok (.getfield 43, 3) := by decide +kernel
theorem dX12_keep_255 : decode cX12_keep 255 = .ok (.iload_n 1, 1) := by decide +kernel
theorem dX12_keep_256 : decode cX12_keep 256 = .ok (.iload_n 2, 1) := by decide +kernel
theorem dX12_keep_257 : decode cX12_keep 257 = .ok (.ifCond .ne 7, 3) := by decide +kernel
theorem dX12_keep_260 : decode cX12_keep 260 = .ok (.iconst 0, 1) := by decide +kernel
theorem dX12_keep_261 : decode cX12_keep 261 = .ok (.goto 9, 3) := by decide +kernel
theorem dX12_keep_264 : decode cX12_keep 264 = .ok (.aload_n 0, 1) := by decide +kernel
theorem dX12_keep_265 : decode cX12_keep 265 = .ok (.getfield 43, 3) := by decide +kernel
theorem dX12_keep_268 : decode cX12_keep 268 = .ok (.iload_n 1, 1) := by decide +kernel
theorem dX12_keep_269 : decode cX12_keep 269 = .ok (.iaload, 1) := by decide +kernel
theorem dX12_keep_270 : decode cX12_keep 270 = .ok (.iastore, 1) := by decide +kernel
theorem dX12_keep_271 : decode cX12_keep 271 = .ok (.iload_n 2, 1) := by decide +kernel
theorem dX12_keep_272 : decode cX12_keep 272 = .ok (.ifCond .le 15, 3) := by decide +kernel
theorem dX12_keep_275 : decode cX12_keep 275 = .ok (.aload_n 0, 1) := by decide +kernel
theorem dX12_keep_276 : decode cX12_keep 276 = .ok (.getfield 27, 3) := by decide +kernel
theorem dX12_keep_279 : decode cX12_keep 279 = .ok (.aload_n 0, 1) := by decide +kernel
theorem dX12_keep_280 : decode cX12_keep 280 = .ok (.getfield 46, 3) := by decide +kernel
theorem dX12_keep_283 : decode cX12_keep 283 = .ok (.iload_n 1, 1) := by decide +kernel
theorem dX12_keep_284 : decode cX12_keep 284 = .ok (.iaload, 1) := by decide +kernel
theorem dX12_keep_285 : decode cX12_keep 285 = .ok (.iconst 0, 1) := by decide +kernel
theorem dX12_keep_286 : decode cX12_keep 286 = .ok (.iastore, 1) := by decide +kernel
theorem dX12_keep_287 : decode cX12_keep 287 = .ok (.aload_n 0, 1) := by decide +kernel
theorem dX12_keep_288 : decode cX12_keep 288 = .ok (.getfield 40, 3) := by decide +kernel
theorem dX12_keep_291 : decode cX12_keep 291 = .ok (.iload_n 1, 1) := by decide +kernel
theorem dX12_keep_292 : decode cX12_keep 292 = .ok (.iload_n 2, 1) := by decide +kernel
theorem dX12_keep_293 : decode cX12_keep 293 = .ok (.iastore, 1) := by decide +kernel
theorem dX12_keep_294 : decode cX12_keep 294 = .ok (.return_, 1) := by decide +kernel
theorem dX12_one_0 : decode cX12_one 0 = .ok (.aload_n 0, 1) := by decide +kernel
theorem dX12_one_1 : decode cX12_one 1 = .ok (.getfield 8, 3) := by decide +kernel
theorem dX12_one_4 : decode cX12_one 4 = .ok (.iload_n 1, 1) := by decide +kernel
theorem dX12_one_5 : decode cX12_one 5 = .ok (.baload, 1) := by decide +kernel
theorem dX12_one_6 : decode cX12_one 6 = .ok (.sipush 255, 3) := by decide +kernel
theorem dX12_one_9 : decode cX12_one 9 = .ok (.iand, 1) := by decide +kernel
theorem dX12_one_10 : decode cX12_one 10 = .ok (.ireturn, 1) := by decide +kernel
theorem dX12_two_0 : decode cX12_two 0 = .ok (.aload_n 0, 1) := by decide +kernel
theorem dX12_two_1 : decode cX12_two 1 = .ok (.iload_n 1, 1) := by decide +kernel
theorem dX12_two_2 : decode cX12_two 2 = .ok (.invokevirtual 102, 3) := by decide +kernel
theorem dX12_two_5 : decode cX12_two 5 = .ok (.sipush 256, 3) := by decide +kernel
theorem dX12_two_8 : decode cX12_two 8 = .ok (.aload_n 0, 1) := by decide +kernel
theorem dX12_two_9 : decode cX12_two 9 = .ok (.iload_n 1, 1) := by decide +kernel
theorem dX12_two_10 : decode cX12_two 10 = .ok (.iconst 1, 1) := by decide +kernel
theorem dX12_two_11 : decode cX12_two 11 = .ok (.iadd, 1) := by decide +kernel
theorem dX12_two_12 : decode cX12_two 12 = .ok (.invokevirtual 102, 3) := by decide +kernel
theorem dX12_two_15 : decode cX12_two 15 = .ok (.imul, 1) := by decide +kernel
theorem dX12_two_16 : decode cX12_two 16 = .ok (.iadd, 1) := by decide +kernel
theorem dX12_two_17 : decode cX12_two 17 = .ok (.ireturn, 1) := by decide +kernel
theorem dX12_four_0 : decode cX12_four 0 = .ok (.aload_n 0, 1) := by decide +kernel
theorem dX12_four_1 : decode cX12_four 1 = .ok (.iload_n 1, 1) := by decide +kernel
theorem dX12_four_2 : decode cX12_four 2 = .ok (.invokevirtual 105, 3) := by decide +kernel
theorem dX12_four_5 : decode cX12_four 5 = .ok (.ldc 108, 2) := by decide +kernel
theorem dX12_four_7 : decode cX12_four 7 = .ok (.aload_n 0, 1) := by decide +kernel
theorem dX12_four_8 : decode cX12_four 8 = .ok (.iload_n 1, 1) := by decide +kernel
theorem dX12_four_9 : decode cX12_four 9 = .ok (.iconst 2, 1) := by decide +kernel
theorem dX12_four_10 : decode cX12_four 10 = .ok (.iadd, 1) := by decide +kernel
theorem dX12_four_11 : decode cX12_four 11 = .ok (.invokevirtual 105, 3) := by decide +kernel
theorem dX12_four_14 : decode cX12_four 14 = .ok (.imul, 1) := by decide +kernel
theorem dX12_four_15 : decode cX12_four 15 = .ok (.iadd, 1) := by decide +kernel
theorem dX12_four_16 : decode cX12_four 16 = .ok (.ireturn, 1) := by decide +kernel
theorem dX12_set_0 : decode cX12_set 0 = .ok (.iconst 0, 1) := by decide +kernel
theorem dX12_set_1 : decode cX12_set 1 = .ok (.istore 4, 2) := by decide +kernel
theorem dX12_set_3 : decode cX12_set 3 = .ok (.iload 4, 2) := by decide +kernel
theorem dX12_set_5 : decode cX12_set 5 = .ok (.iload_n 2, 1) := by decide +kernel
theorem dX12_set_6 : decode cX12_set 6 = .ok (.if_icmp .ge 26, 3) := by decide +kernel
theorem dX12_set_9 : decode cX12_set 9 = .ok (.aload_n 0, 1) := by decide +kernel
theorem dX12_set_10 : decode cX12_set 10 = .ok (.getfield 8, 3) := by decide +kernel
theorem dX12_set_13 : decode cX12_set 13 = .ok (.iload_n 1, 1) := by decide +kernel
theorem dX12_set_14 : decode cX12_set 14 = .ok (.iload 4, 2) := by decide +kernel
theorem dX12_set_16 : decode cX12_set 16 = .ok (.iadd, 1) := by decide +kernel
theorem dX12_set_17 : decode cX12_set 17 = .ok (.iload_n 3, 1) := by decide +kernel
theorem dX12_set_18 : decode cX12_set 18 = .ok (.bipush 8, 2) := by decide +kernel
theorem dX12_set_20 : decode cX12_set 20 = .ok (.iload 4, 2) := by decide +kernel
theorem dX12_set_22 : decode cX12_set 22 = .ok (.imul, 1) := by decide +kernel
theorem dX12_set_23 : decode cX12_set 23 = .ok (.ishr, 1) := by decide +kernel
theorem dX12_set_24 : decode cX12_set 24 = .ok (.i2b, 1) := by decide +kernel
theorem dX12_set_25 : decode cX12_set 25 = .ok (.bastore, 1) := by decide +kernel
theorem dX12_set_26 : decode cX12_set 26 = .ok (.iinc 4 1, 3) := by decide +kernel
theorem dX12_set_29 : decode cX12_set 29 = .ok (.goto (-26), 3) := by decide +kernel
theorem dX12_set_32 : decode cX12_set 32 = .ok (.return_, 1) := by decide +kernel
theorem dX12_entry_0 : decode cX12_entry 0 = .ok (.bipush 8, 2) := by decide +kernel
theorem dX12_entry_2 : decode cX12_entry 2 = .ok (.aload_n 0, 1) := by decide +kernel
theorem dX12_entry_3 : decode cX12_entry 3 = .ok (.getfield 109, 3) := by decide +kernel
theorem dX12_entry_6 : decode cX12_entry 6 = .ok (.iconst 4, 1) := by decide +kernel
theorem dX12_entry_7 : decode cX12_entry 7 = .ok (.invokestatic 94, 3) := by decide +kernel
theorem dX12_entry_10 : decode cX12_entry 10 = .ok (.iconst 4, 1) := by decide +kernel
theorem dX12_entry_11 : decode cX12_entry 11 = .ok (.imul, 1) := by decide +kernel
theorem dX12_entry_12 : decode cX12_entry 12 = .ok (.iadd, 1) := by decide +kernel
theorem dX12_entry_13 : decode cX12_entry 13 = .ok (.istore 5, 2) := by decide +kernel
theorem dX12_entry_15 : decode cX12_entry 15 = .ok (.iconst 0, 1) := by decide +kernel
theorem dX12_entry_16 : decode cX12_entry 16 = .ok (.istore 6, 2) := by decide +kernel
theorem dX12_entry_18 : decode cX12_entry 18 = .ok (.iload 6, 2) := by decide +kernel
theorem dX12_entry_20 : decode cX12_entry 20 = .ok (.iload 5, 2) := by decide +kernel
theorem dX12_entry_22 : decode cX12_entry 22 = .ok (.if_icmp .ge 19, 3) := by decide +kernel
theorem dX12_entry_25 : decode cX12_entry 25 = .ok (.aload_n 0, 1) := by decide +kernel
theorem dX12_entry_26 : decode cX12_entry 26 = .ok (.getfield 8, 3) := by decide +kernel
theorem dX12_entry_29 : decode cX12_entry 29 = .ok (.iload_n 1, 1) := by decide +kernel
theorem dX12_entry_30 : decode cX12_entry 30 = .ok (.iload 6, 2) := by decide +kernel
theorem dX12_entry_32 : decode cX12_entry 32 = .ok (.iadd, 1) := by decide +kernel
theorem dX12_entry_33 : decode cX12_entry 33 = .ok (.iconst 0, 1) := by decide +kernel
theorem dX12_entry_34 : decode cX12_entry 34 = .ok (.bastore, 1) := by decide +kernel
theorem dX12_entry_35 : decode cX12_entry 35 = .ok (.iinc 6 1, 3) := by decide +kernel
theorem dX12_entry_38 : decode cX12_entry 38 = .ok (.goto (-20), 3) := by decide +kernel
theorem dX12_entry_41 : decode cX12_entry 41 = .ok (.aload_n 0, 1) := by decide +kernel
theorem dX12_entry_42 : decode cX12_entry 42 = .ok (.iload_n 1, 1) := by decide +kernel
theorem dX12_entry_43 : decode cX12_entry 43 = .ok (.iconst 4, 1) := by decide +kernel
theorem dX12_entry_44 : decode cX12_entry 44 = .ok (.iload_n 2, 1) := by decide +kernel
theorem dX12_entry_45 : decode cX12_entry 45 = .ok (.invokevirtual 112, 3) := by decide +kernel
theorem dX12_entry_48 : decode cX12_entry 48 = .ok (.aload_n 0, 1) := by decide +kernel
theorem dX12_entry_49 : decode cX12_entry 49 = .ok (.iload_n 1, 1) := by decide +kernel
theorem dX12_entry_50 : decode cX12_entry 50 = .ok (.iconst 4, 1) := by decide +kernel
theorem dX12_entry_51 : decode cX12_entry 51 = .ok (.iadd, 1) := by decide +kernel
theorem dX12_entry_52 : decode cX12_entry 52 = .ok (.iconst 2, 1) := by decide +kernel
theorem dX12_entry_53 : decode cX12_entry 53 = .ok (.iload_n 3, 1) := by decide +kernel
theorem dX12_entry_54 : decode cX12_entry 54 = .ok (.invokevirtual 112, 3) := by decide +kernel
theorem dX12_entry_57 : decode cX12_entry 57 = .ok (.aload_n 0, 1) := by decide +kernel
theorem dX12_entry_58 : decode cX12_entry 58 = .ok (.iload_n 1, 1) := by decide +kernel
theorem dX12_entry_59 : decode cX12_entry 59 = .ok (.bipush 6, 2) := by decide +kernel
theorem dX12_entry_61 : decode cX12_entry 61 = .ok (.iadd, 1) := by decide +kernel
theorem dX12_entry_62 : decode cX12_entry 62 = .ok (.iconst 1, 1) := by decide +kernel
theorem dX12_entry_63 : decode cX12_entry 63 = .ok (.aload_n 0, 1) := by decide +kernel
theorem dX12_entry_64 : decode cX12_entry 64 = .ok (.getfield 109, 3) := by decide +kernel
theorem dX12_entry_67 : decode cX12_entry 67 = .ok (.invokevirtual 112, 3) := by decide +kernel
theorem dX12_entry_70 : decode cX12_entry 70 = .ok (.aload_n 0, 1) := by decide +kernel
theorem dX12_entry_71 : decode cX12_entry 71 = .ok (.iload_n 1, 1) := by decide +kernel
theorem dX12_entry_72 : decode cX12_entry 72 = .ok (.bipush 7, 2) := by decide +kernel
theorem dX12_entry_74 : decode cX12_entry 74 = .ok (.iadd, 1) := by decide +kernel
theorem dX12_entry_75 : decode cX12_entry 75 = .ok (.iconst 1, 1) := by decide +kernel
theorem dX12_entry_76 : decode cX12_entry 76 = .ok (.iload 4, 2) := by decide +kernel
theorem dX12_entry_78 : decode cX12_entry 78 = .ok (.invokevirtual 112, 3) := by decide +kernel
theorem dX12_entry_81 : decode cX12_entry 81 = .ok (.iconst 0, 1) := by decide +kernel
theorem dX12_entry_82 : decode cX12_entry 82 = .ok (.istore 6, 2) := by decide +kernel
theorem dX12_entry_84 : decode cX12_entry 84 = .ok (.iload 6, 2) := by decide +kernel
theorem dX12_entry_86 : decode cX12_entry 86 = .ok (.aload_n 0, 1) := by decide +kernel
theorem dX12_entry_87 : decode cX12_entry 87 = .ok (.getfield 109, 3) := by decide +kernel
theorem dX12_entry_90 : decode cX12_entry 90 = .ok (.if_icmp .ge 29, 3) := by decide +kernel
theorem dX12_entry_93 : decode cX12_entry 93 = .ok (.aload_n 0, 1) := by decide +kernel
theorem dX12_entry_94 : decode cX12_entry 94 = .ok (.getfield 8, 3) := by decide +kernel
theorem dX12_entry_97 : decode cX12_entry 97 = .ok (.iload_n 1, 1) := by decide +kernel
theorem dX12_entry_98 : decode cX12_entry 98 = .ok (.bipush 8, 2) := by decide +kernel
theorem dX12_entry_100 : decode cX12_entry 100 = .ok (.iadd, 1) := by decide +kernel
theorem dX12_entry_101 : decode cX12_entry 101 = .ok (.iload 6, 2) := by decide +kernel
theorem dX12_entry_103 : decode cX12_entry 103 = .ok (.iadd, 1) := by decide +kernel
theorem dX12_entry_104 : decode cX12_entry 104 = .ok (.aload_n 0, 1) := by decide +kernel
theorem dX12_entry_105 : decode cX12_entry 105 = .ok (.getfield 65, 3) := by decide +kernel
theorem dX12_entry_108 : decode cX12_entry 108 = .ok (.iload 6, 2) := by decide +kernel
theorem dX12_entry_110 : decode cX12_entry 110 = .ok (.iaload, 1) := by decide +kernel
theorem dX12_entry_111 : decode cX12_entry 111 = .ok (.i2b, 1) := by decide +kernel
theorem dX12_entry_112 : decode cX12_entry 112 = .ok (.bastore, 1) := by decide +kernel
theorem dX12_entry_113 : decode cX12_entry 113 = .ok (.iinc 6 1, 3) := by decide +kernel
theorem dX12_entry_116 : decode cX12_entry 116 = .ok (.goto (-32), 3) := by decide +kernel
theorem dX12_entry_119 : decode cX12_entry 119 = .ok (.return_, 1) := by decide +kernel
theorem dX12_folder_0 : decode cX12_folder 0 = .ok (.aload_n 0, 1) := by decide +kernel
theorem dX12_folder_1 : decode cX12_folder 1 = .ok (.iload_n 1, 1) := by decide +kernel
theorem dX12_folder_2 : decode cX12_folder 2 = .ok (.invokevirtual 143, 3) := by decide +kernel
theorem dX12_folder_5 : decode cX12_folder 5 = .ok (.aload_n 0, 1) := by decide +kernel
theorem dX12_folder_6 : decode cX12_folder 6 = .ok (.getfield 34, 3) := by decide +kernel
theorem dX12_folder_9 : decode cX12_folder 9 = .ok (.iload_n 1, 1) := by decide +kernel
theorem dX12_folder_10 : decode cX12_folder 10 = .ok (.sipush 1024, 3) := by decide +kernel
theorem dX12_folder_13 : decode cX12_folder 13 = .ok (.iastore, 1) := by decide +kernel
theorem dX12_folder_14 : decode cX12_folder 14 = .ok (.aload_n 0, 1) := by decide +kernel
theorem dX12_folder_15 : decode cX12_folder 15 = .ok (.getfield 109, 3) := by decide +kernel
theorem dX12_folder_18 : decode cX12_folder 18 = .ok (.istore_n 2, 1) := by decide +kernel
theorem dX12_folder_19 : decode cX12_folder 19 = .ok (.aload_n 0, 1) := by decide +kernel
theorem dX12_folder_20 : decode cX12_folder 20 = .ok (.getfield 65, 3) := by decide +kernel
theorem dX12_folder_23 : decode cX12_folder 23 = .ok (.iconst 0, 1) := by decide +kernel
theorem dX12_folder_24 : decode cX12_folder 24 = .ok (.iaload, 1) := by decide +kernel
theorem dX12_folder_25 : decode cX12_folder 25 = .ok (.istore_n 3, 1) := by decide +kernel
theorem dX12_folder_26 : decode cX12_folder 26 = .ok (.aload_n 0, 1) := by decide +kernel
theorem dX12_folder_27 : decode cX12_folder 27 = .ok (.getfield 65, 3) := by decide +kernel
theorem dX12_folder_30 : decode cX12_folder 30 = .ok (.iconst 1, 1) := by decide +kernel
theorem dX12_folder_31 : decode cX12_folder 31 = .ok (.iaload, 1) := by decide +kernel
theorem dX12_folder_32 : decode cX12_folder 32 = .ok (.istore 4, 2) := by decide +kernel
theorem dX12_folder_34 : decode cX12_folder 34 = .ok (.aload_n 0, 1) := by decide +kernel
theorem dX12_folder_35 : decode cX12_folder 35 = .ok (.getfield 65, 3) := by decide +kernel
theorem dX12_folder_38 : decode cX12_folder 38 = .ok (.iconst 0, 1) := by decide +kernel
theorem dX12_folder_39 : decode cX12_folder 39 = .ok (.bipush 46, 2) := by decide +kernel
theorem dX12_folder_41 : decode cX12_folder 41 = .ok (.iastore, 1) := by decide +kernel
theorem dX12_folder_42 : decode cX12_folder 42 = .ok (.aload_n 0, 1) := by decide +kernel
theorem dX12_folder_43 : decode cX12_folder 43 = .ok (.getfield 65, 3) := by decide +kernel
theorem dX12_folder_46 : decode cX12_folder 46 = .ok (.iconst 1, 1) := by decide +kernel
theorem dX12_folder_47 : decode cX12_folder 47 = .ok (.bipush 46, 2) := by decide +kernel
theorem dX12_folder_49 : decode cX12_folder 49 = .ok (.iastore, 1) := by decide +kernel
theorem dX12_folder_50 : decode cX12_folder 50 = .ok (.aload_n 0, 1) := by decide +kernel
theorem dX12_folder_51 : decode cX12_folder 51 = .ok (.iconst 1, 1) := by decide +kernel
theorem dX12_folder_52 : decode cX12_folder 52 = .ok (.putfield 109, 3) := by decide +kernel
theorem dX12_folder_55 : decode cX12_folder 55 = .ok (.aload_n 0, 1) := by decide +kernel
theorem dX12_folder_56 : decode cX12_folder 56 = .ok (.sipush 1024, 3) := by decide +kernel
theorem dX12_folder_59 : decode cX12_folder 59 = .ok (.aload_n 0, 1) := by decide +kernel
theorem dX12_folder_60 : decode cX12_folder 60 = .ok (.getfield 43, 3) := by decide +kernel
theorem dX12_folder_63 : decode cX12_folder 63 = .ok (.iload_n 1, 1) := by decide +kernel
theorem dX12_folder_64 : decode cX12_folder 64 = .ok (.iaload, 1) := by decide +kernel
theorem dX12_folder_65 : decode cX12_folder 65 = .ok (.imul, 1) := by decide +kernel
theorem dX12_folder_66 : decode cX12_folder 66 = .ok (.iload_n 1, 1) := by decide +kernel
theorem dX12_folder_67 : decode cX12_folder 67 = .ok (.bipush 12, 2) := by decide +kernel
theorem dX12_folder_69 : decode cX12_folder 69 = .ok (.iconst 2, 1) := by decide +kernel
theorem dX12_folder_70 : decode cX12_folder 70 = .ok (.invokevirtual 146, 3) := by decide +kernel
theorem dX12_folder_73 : decode cX12_folder 73 = .ok (.aload_n 0, 1) := by decide +kernel
theorem dX12_folder_74 : decode cX12_folder 74 = .ok (.iconst 2, 1) := by decide +kernel
theorem dX12_folder_75 : decode cX12_folder 75 = .ok (.putfield 109, 3) := by decide +kernel
theorem dX12_folder_78 : decode cX12_folder 78 = .ok (.aload_n 0, 1) := by decide +kernel
theorem dX12_folder_79 : decode cX12_folder 79 = .ok (.sipush 1024, 3) := by decide +kernel
theorem dX12_folder_82 : decode cX12_folder 82 = .ok (.aload_n 0, 1) := by decide +kernel
theorem dX12_folder_83 : decode cX12_folder 83 = .ok (.getfield 43, 3) := by decide +kernel
theorem dX12_folder_86 : decode cX12_folder 86 = .ok (.iload_n 1, 1) := by decide +kernel
theorem dX12_folder_87 : decode cX12_folder 87 = .ok (.iaload, 1) := by decide +kernel
theorem dX12_folder_88 : decode cX12_folder 88 = .ok (.imul, 1) := by decide +kernel
theorem dX12_folder_89 : decode cX12_folder 89 = .ok (.bipush 12, 2) := by decide +kernel
theorem dX12_folder_91 : decode cX12_folder 91 = .ok (.iadd, 1) := by decide +kernel
theorem dX12_folder_92 : decode cX12_folder 92 = .ok (.aload_n 0, 1) := by decide +kernel
theorem dX12_folder_93 : decode cX12_folder 93 = .ok (.getfield 58, 3) := by decide +kernel
theorem dX12_folder_96 : decode cX12_folder 96 = .ok (.iload_n 1, 1) := by decide +kernel
theorem dX12_folder_97 : decode cX12_folder 97 = .ok (.iaload, 1) := by decide +kernel
theorem dX12_folder_98 : decode cX12_folder 98 = .ok (.sipush 1012, 3) := by decide +kernel
theorem dX12_folder_101 : decode cX12_folder 101 = .ok (.iconst 2, 1) := by decide +kernel
theorem dX12_folder_102 : decode cX12_folder 102 = .ok (.invokevirtual 146, 3) := by decide +kernel
theorem dX12_folder_105 : decode cX12_folder 105 = .ok (.aload_n 0, 1) := by decide +kernel
theorem dX12_folder_106 : decode cX12_folder 106 = .ok (.getfield 65, 3) := by decide +kernel
theorem dX12_folder_109 : decode cX12_folder 109 = .ok (.iconst 0, 1) := by decide +kernel
theorem dX12_folder_110 : decode cX12_folder 110 = .ok (.iload_n 3, 1) := by decide +kernel
theorem dX12_folder_111 : decode cX12_folder 111 = .ok (.iastore, 1) := by decide +kernel
theorem dX12_folder_112 : decode cX12_folder 112 = .ok (.aload_n 0, 1) := by decide +kernel
theorem dX12_folder_113 : decode cX12_folder 113 = .ok (.getfield 65, 3) := by decide +kernel
theorem dX12_folder_116 : decode cX12_folder 116 = .ok (.iconst 1, 1) := by decide +kernel
theorem dX12_folder_117 : decode cX12_folder 117 = .ok (.iload 4, 2) := by decide +kernel
theorem dX12_folder_119 : decode cX12_folder 119 = .ok (.iastore, 1) := by decide +kernel
theorem dX12_folder_120 : decode cX12_folder 120 = .ok (.aload_n 0, 1) := by decide +kernel
theorem dX12_folder_121 : decode cX12_folder 121 = .ok (.iload_n 2, 1) := by decide +kernel
