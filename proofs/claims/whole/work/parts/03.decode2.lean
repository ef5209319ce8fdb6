theorem dX12_format_301 : decode cX12_format 301 = .ok (.iconst 2, 1) := by decide +kernel
theorem dX12_format_302 : decode cX12_format 302 = .ok (.iconst 2, 1) := by decide +kernel
theorem dX12_format_303 : decode cX12_format 303 = .ok (.iastore, 1) := by decide +kernel
theorem dX12_format_304 : decode cX12_format 304 = .ok (.aload_n 0, 1) := by decide +kernel
theorem dX12_format_305 : decode cX12_format 305 = .ok (.iconst 2, 1) := by decide +kernel
theorem dX12_format_306 : decode cX12_format 306 = .ok (.invokevirtual 127, 3) := by decide +kernel
theorem dX12_format_309 : decode cX12_format 309 = .ok (.aload_n 0, 1) := by decide +kernel
theorem dX12_format_310 : decode cX12_format 310 = .ok (.iconst 2, 1) := by decide +kernel
theorem dX12_format_311 : decode cX12_format 311 = .ok (.putfield 130, 3) := by decide +kernel
theorem dX12_format_314 : decode cX12_format 314 = .ok (.aload_n 0, 1) := by decide +kernel
theorem dX12_format_315 : decode cX12_format 315 = .ok (.iconst 1, 1) := by decide +kernel
theorem dX12_format_316 : decode cX12_format 316 = .ok (.putfield 133, 3) := by decide +kernel
theorem dX12_format_319 : decode cX12_format 319 = .ok (.aload_n 0, 1) := by decide +kernel
theorem dX12_format_320 : decode cX12_format 320 = .ok (.iconst 0, 1) := by decide +kernel
theorem dX12_format_321 : decode cX12_format 321 = .ok (.putfield 137, 3) := by decide +kernel
theorem dX12_format_324 : decode cX12_format 324 = .ok (.aload_n 0, 1) := by decide +kernel
theorem dX12_format_325 : decode cX12_format 325 = .ok (.invokevirtual 140, 3) := by decide +kernel
theorem dX12_format_328 : decode cX12_format 328 = .ok (.ireturn, 1) := by decide +kernel
theorem dX12_parts_0 : decode cX12_parts 0 = .ok (.iload_n 0, 1) := by decide +kernel
theorem dX12_parts_1 : decode cX12_parts 1 = .ok (.iload_n 1, 1) := by decide +kernel
theorem dX12_parts_2 : decode cX12_parts 2 = .ok (.iadd, 1) := by decide +kernel
theorem dX12_parts_3 : decode cX12_parts 3 = .ok (.iconst 1, 1) := by decide +kernel
theorem dX12_parts_4 : decode cX12_parts 4 = .ok (.isub, 1) := by decide +kernel
theorem dX12_parts_5 : decode cX12_parts 5 = .ok (.iload_n 1, 1) := by decide +kernel
theorem dX12_parts_6 : decode cX12_parts 6 = .ok (.idiv, 1) := by decide +kernel
theorem dX12_parts_7 : decode cX12_parts 7 = .ok (.ireturn, 1) := by decide +kernel
theorem dX12_isFixed_0 : decode cX12_isFixed 0 = .ok (.iload_n 1, 1) := by decide +kernel
theorem dX12_isFixed_1 : decode cX12_isFixed 1 = .ok (.ifCond .le 24, 3) := by decide +kernel
theorem dX12_isFixed_4 : decode cX12_isFixed 4 = .ok (.iload_n 1, 1) := by decide +kernel
theorem dX12_isFixed_5 : decode cX12_isFixed 5 = .ok (.iconst 1, 1) := by decide +kernel
theorem dX12_isFixed_6 : decode cX12_isFixed 6 = .ok (.isub, 1) := by decide +kernel
theorem dX12_isFixed_7 : decode cX12_isFixed 7 = .ok (.aload_n 0, 1) := by decide +kernel
theorem dX12_isFixed_8 : decode cX12_isFixed 8 = .ok (.getfield 78, 3) := by decide +kernel
theorem dX12_isFixed_11 : decode cX12_isFixed 11 = .ok (.irem, 1) := by decide +kernel
theorem dX12_isFixed_12 : decode cX12_isFixed 12 = .ok (.iconst 4, 1) := by decide +kernel
theorem dX12_isFixed_13 : decode cX12_isFixed 13 = .ok (.aload_n 0, 1) := by decide +kernel
theorem dX12_isFixed_14 : decode cX12_isFixed 14 = .ok (.getfield 88, 3) := by decide +kernel
theorem dX12_isFixed_17 : decode cX12_isFixed 17 = .ok (.iadd, 1) := by decide +kernel
theorem dX12_isFixed_18 : decode cX12_isFixed 18 = .ok (.if_icmp .ge 7, 3) := by decide +kernel
theorem dX12_isFixed_21 : decode cX12_isFixed 21 = .ok (.iconst 1, 1) := by decide +kernel
theorem dX12_isFixed_22 : decode cX12_isFixed 22 = .ok (.goto 4, 3) := by decide +kernel
theorem dX12_isFixed_25 : decode cX12_isFixed 25 = .ok (.iconst 0, 1) := by decide +kernel
theorem dX12_isFixed_26 : decode cX12_isFixed 26 = .ok (.ireturn, 1) := by decide +kernel
theorem dX12_clear_0 : decode cX12_clear 0 = .ok (.aload_n 0, 1) := by decide +kernel
theorem dX12_clear_1 : decode cX12_clear 1 = .ok (.getfield 34, 3) := by decide +kernel
theorem dX12_clear_4 : decode cX12_clear 4 = .ok (.iload_n 1, 1) := by decide +kernel
theorem dX12_clear_5 : decode cX12_clear 5 = .ok (.iconst 0, 1) := by decide +kernel
theorem dX12_clear_6 : decode cX12_clear 6 = .ok (.iastore, 1) := by decide +kernel
theorem dX12_clear_7 : decode cX12_clear 7 = .ok (.aload_n 0, 1) := by decide +kernel
theorem dX12_clear_8 : decode cX12_clear 8 = .ok (.getfield 37, 3) := by decide +kernel
theorem dX12_clear_11 : decode cX12_clear 11 = .ok (.iload_n 1, 1) := by decide +kernel
theorem dX12_clear_12 : decode cX12_clear 12 = .ok (.iconst 0, 1) := by decide +kernel
theorem dX12_clear_13 : decode cX12_clear 13 = .ok (.iastore, 1) := by decide +kernel
theorem dX12_clear_14 : decode cX12_clear 14 = .ok (.aload_n 0, 1) := by decide +kernel
theorem dX12_clear_15 : decode cX12_clear 15 = .ok (.getfield 40, 3) := by decide +kernel
theorem dX12_clear_18 : decode cX12_clear 18 = .ok (.iload_n 1, 1) := by decide +kernel
theorem dX12_clear_19 : decode cX12_clear 19 = .ok (.iconst 0, 1) := by decide +kernel
theorem dX12_clear_20 : decode cX12_clear 20 = .ok (.iastore, 1) := by decide +kernel
theorem dX12_clear_21 : decode cX12_clear 21 = .ok (.aload_n 0, 1) := by decide +kernel
theorem dX12_clear_22 : decode cX12_clear 22 = .ok (.getfield 43, 3) := by decide +kernel
theorem dX12_clear_25 : decode cX12_clear 25 = .ok (.iload_n 1, 1) := by decide +kernel
theorem dX12_clear_26 : decode cX12_clear 26 = .ok (.iconst 0, 1) := by decide +kernel
theorem dX12_clear_27 : decode cX12_clear 27 = .ok (.iastore, 1) := by decide +kernel
theorem dX12_clear_28 : decode cX12_clear 28 = .ok (.aload_n 0, 1) := by decide +kernel
theorem dX12_clear_29 : decode cX12_clear 29 = .ok (.getfield 46, 3) := by decide +kernel
theorem dX12_clear_32 : decode cX12_clear 32 = .ok (.iload_n 1, 1) := by decide +kernel
theorem dX12_clear_33 : decode cX12_clear 33 = .ok (.iconst 0, 1) := by decide +kernel
theorem dX12_clear_34 : decode cX12_clear 34 = .ok (.iastore, 1) := by decide +kernel
theorem dX12_clear_35 : decode cX12_clear 35 = .ok (.aload_n 0, 1) := by decide +kernel
theorem dX12_clear_36 : decode cX12_clear 36 = .ok (.getfield 49, 3) := by decide +kernel
theorem dX12_clear_39 : decode cX12_clear 39 = .ok (.iload_n 1, 1) := by decide +kernel
theorem dX12_clear_40 : decode cX12_clear 40 = .ok (.iconst 0, 1) := by decide +kernel
theorem dX12_clear_41 : decode cX12_clear 41 = .ok (.iastore, 1) := by decide +kernel
theorem dX12_clear_42 : decode cX12_clear 42 = .ok (.aload_n 0, 1) := by decide +kernel
theorem dX12_clear_43 : decode cX12_clear 43 = .ok (.getfield 52, 3) := by decide +kernel
theorem dX12_clear_46 : decode cX12_clear 46 = .ok (.iload_n 1, 1) := by decide +kernel
theorem dX12_clear_47 : decode cX12_clear 47 = .ok (.iconst 0, 1) := by decide +kernel
theorem dX12_clear_48 : decode cX12_clear 48 = .ok (.iastore, 1) := by decide +kernel
theorem dX12_clear_49 : decode cX12_clear 49 = .ok (.aload_n 0, 1) := by decide +kernel
theorem dX12_clear_50 : decode cX12_clear 50 = .ok (.getfield 55, 3) := by decide +kernel
theorem dX12_clear_53 : decode cX12_clear 53 = .ok (.iload_n 1, 1) := by decide +kernel
theorem dX12_clear_54 : decode cX12_clear 54 = .ok (.iconst 0, 1) := by decide +kernel
theorem dX12_clear_55 : decode cX12_clear 55 = .ok (.iastore, 1) := by decide +kernel
theorem dX12_clear_56 : decode cX12_clear 56 = .ok (.iconst 0, 1) := by decide +kernel
theorem dX12_clear_57 : decode cX12_clear 57 = .ok (.istore_n 2, 1) := by decide +kernel
theorem dX12_clear_58 : decode cX12_clear 58 = .ok (.iload_n 2, 1) := by decide +kernel
theorem dX12_clear_59 : decode cX12_clear 59 = .ok (.iconst 3, 1) := by decide +kernel
theorem dX12_clear_60 : decode cX12_clear 60 = .ok (.if_icmp .ge 20, 3) := by decide +kernel
theorem dX12_clear_63 : decode cX12_clear 63 = .ok (.aload_n 0, 1) := by decide +kernel
theorem dX12_clear_64 : decode cX12_clear 64 = .ok (.getfield 61, 3) := by decide +kernel
theorem dX12_clear_67 : decode cX12_clear 67 = .ok (.iconst 3, 1) := by decide +kernel
theorem dX12_clear_68 : decode cX12_clear 68 = .ok (.iload_n 1, 1) := by decide +kernel
theorem dX12_clear_69 : decode cX12_clear 69 = .ok (.imul, 1) := by decide +kernel
theorem dX12_clear_70 : decode cX12_clear 70 = .ok (.iload_n 2, 1) := by decide +kernel
theorem dX12_clear_71 : decode cX12_clear 71 = .ok (.iadd, 1) := by decide +kernel
theorem dX12_clear_72 : decode cX12_clear 72 = .ok (.lconst 0, 1) := by decide +kernel
theorem dX12_clear_73 : decode cX12_clear 73 = .ok (.lastore, 1) := by decide +kernel
theorem dX12_clear_74 : decode cX12_clear 74 = .ok (.iinc 2 1, 3) := by decide +kernel
theorem dX12_clear_77 : decode cX12_clear 77 = .ok (.goto (-19), 3) := by decide +kernel
theorem dX12_clear_80 : decode cX12_clear 80 = .ok (.return_, 1) := by decide +kernel
theorem dX12_folder_0 : decode cX12_folder 0 = .ok (.aload_n 0, 1) := by decide +kernel
theorem dX12_folder_1 : decode cX12_folder 1 = .ok (.iload_n 1, 1) := by decide +kernel
theorem dX12_folder_2 : decode cX12_folder 2 = .ok (.invokevirtual 143, 3) := by decide +kernel
theorem dX12_folder_5 : decode cX12_folder 5 = .ok (.aload_n 0, 1) := by decide +kernel
theorem dX12_folder_6 : decode cX12_folder 6 = .ok (.getfield 34, 3) := by decide +kernel
theorem dX12_folder_9 : decode cX12_folder 9 = .ok (.iload_n 1, 1) := by decide +kernel
theorem dX12_folder_10 : decode cX12_folder 10 = .ok (.sipush 1024, 3) := by decide +kernel
theorem dX12_folder_13 : decode cX12_folder 13 = .ok (.iastore, 1) := by decide +kernel
theorem dX12_folder_14 : decode cX12_folder 14 = .ok (.aload_n 0, 1) := by decide +kernel
theorem dX12_folder_15 : decode cX12_folder 15 = .ok (.getfield 109, 3) := by decide +kernel
theorem dX12_folder_18 : decode cX12_folder 18 = .ok (.istore_n 2, 1) := by decide +kernel
theorem dX12_folder_19 : decode cX12_folder 19 = .ok (.aload_n 0, 1) := by decide +kernel
theorem dX12_folder_20 : decode cX12_folder 20 = .ok (.getfield 65, 3) := by decide +kernel
theorem dX12_folder_23 : decode cX12_folder 23 = .ok (.iconst 0, 1) := by decide +kernel
theorem dX12_folder_24 : decode cX12_folder 24 = .ok (.iaload, 1) := by decide +kernel
theorem dX12_folder_25 : decode cX12_folder 25 = .ok (.istore_n 3, 1) := by decide +kernel
theorem dX12_folder_26 : decode cX12_folder 26 = .ok (.aload_n 0, 1) := by decide +kernel
theorem dX12_folder_27 : decode cX12_folder 27 = .ok (.getfield 65, 3) := by decide +kernel
theorem dX12_folder_30 : decode cX12_folder 30 = .ok (.iconst 1, 1) := by decide +kernel
theorem dX12_folder_31 : decode cX12_folder 31 = .ok (.iaload, 1) := by decide +kernel
theorem dX12_folder_32 : decode cX12_folder 32 = .ok (.istore 4, 2) := by decide +kernel
theorem dX12_folder_34 : decode cX12_folder 34 = .ok (.aload_n 0, 1) := by decide +kernel
theorem dX12_folder_35 : decode cX12_folder 35 = .ok (.getfield 65, 3) := by decide +kernel
theorem dX12_folder_38 : decode cX12_folder 38 = .ok (.iconst 0, 1) := by decide +kernel
theorem dX12_folder_39 : decode cX12_folder 39 = .ok (.bipush 46, 2) := by decide +kernel
theorem dX12_folder_41 : decode cX12_folder 41 = .ok (.iastore, 1) := by decide +kernel
theorem dX12_folder_42 : decode cX12_folder 42 = .ok (.aload_n 0, 1) := by decide +kernel
theorem dX12_folder_43 : decode cX12_folder 43 = .ok (.getfield 65, 3) := by decide +kernel
theorem dX12_folder_46 : decode cX12_folder 46 = .ok (.iconst 1, 1) := by decide +kernel
theorem dX12_folder_47 : decode cX12_folder 47 = .ok (.bipush 46, 2) := by decide +kernel
theorem dX12_folder_49 : decode cX12_folder 49 = .ok (.iastore, 1) := by decide +kernel
theorem dX12_folder_50 : decode cX12_folder 50 = .ok (.aload_n 0, 1) := by decide +kernel
theorem dX12_folder_51 : decode cX12_folder 51 = .ok (.iconst 1, 1) := by decide +kernel
theorem dX12_folder_52 : decode cX12_folder 52 = .ok (.putfield 109, 3) := by decide +kernel
theorem dX12_folder_55 : decode cX12_folder 55 = .ok (.aload_n 0, 1) := by decide +kernel
theorem dX12_folder_56 : decode cX12_folder 56 = .ok (.sipush 1024, 3) := by decide +kernel
theorem dX12_folder_59 : decode cX12_folder 59 = .ok (.aload_n 0, 1) := by decide +kernel
theorem dX12_folder_60 : decode cX12_folder 60 = .ok (.getfield 43, 3) := by decide +kernel
theorem dX12_folder_63 : decode cX12_folder 63 = .ok (.iload_n 1, 1) := by decide +kernel
theorem dX12_folder_64 : decode cX12_folder 64 = .ok (.iaload, 1) := by decide +kernel
theorem dX12_folder_65 : decode cX12_folder 65 = .ok (.imul, 1) := by decide +kernel
theorem dX12_folder_66 : decode cX12_folder 66 = .ok (.iload_n 1, 1) := by decide +kernel
theorem dX12_folder_67 : decode cX12_folder 67 = .ok (.bipush 12, 2) := by decide +kernel
theorem dX12_folder_69 : decode cX12_folder 69 = .ok (.iconst 2, 1) := by decide +kernel
theorem dX12_folder_70 : decode cX12_folder 70 = .ok (.invokevirtual 146, 3) := by decide +kernel
theorem dX12_folder_73 : decode cX12_folder 73 = .ok (.aload_n 0, 1) := by decide +kernel
theorem dX12_folder_74 : decode cX12_folder 74 = .ok (.iconst 2, 1) := by decide +kernel
theorem dX12_folder_75 : decode cX12_folder 75 = .ok (.putfield 109, 3) := by decide +kernel
theorem dX12_folder_78 : decode cX12_folder 78 = .ok (.aload_n 0, 1) := by decide +kernel
theorem dX12_folder_79 : decode cX12_folder 79 = .ok (.sipush 1024, 3) := by decide +kernel
theorem dX12_folder_82 : decode cX12_folder 82 = .ok (.aload_n 0, 1) := by decide +kernel
theorem dX12_folder_83 : decode cX12_folder 83 = .ok (.getfield 43, 3) := by decide +kernel
theorem dX12_folder_86 : decode cX12_folder 86 = .ok (.iload_n 1, 1) := by decide +kernel
theorem dX12_folder_87 : decode cX12_folder 87 = .ok (.iaload, 1) := by decide +kernel
theorem dX12_folder_88 : decode cX12_folder 88 = .ok (.imul, 1) := by decide +kernel
theorem dX12_folder_89 : decode cX12_folder 89 = .ok (.bipush 12, 2) := by decide +kernel
theorem dX12_folder_91 : decode cX12_folder 91 = .ok (.iadd, 1) := by decide +kernel
theorem dX12_folder_92 : decode cX12_folder 92 = .ok (.aload_n 0, 1) := by decide +kernel
theorem dX12_folder_93 : decode cX12_folder 93 = .ok (.getfield 58, 3) := by decide +kernel
theorem dX12_folder_96 : decode cX12_folder 96 = .ok (.iload_n 1, 1) := by decide +kernel
theorem dX12_folder_97 : decode cX12_folder 97 = .ok (.iaload, 1) := by decide +kernel
theorem dX12_folder_98 : decode cX12_folder 98 = .ok (.sipush 1012, 3) := by decide +kernel
theorem dX12_folder_101 : decode cX12_folder 101 = .ok (.iconst 2, 1) := by decide +kernel
theorem dX12_folder_102 : decode cX12_folder 102 = .ok (.invokevirtual 146, 3) := by decide +kernel
theorem dX12_folder_105 : decode cX12_folder 105 = .ok (.aload_n 0, 1) := by decide +kernel
theorem dX12_folder_106 : decode cX12_folder 106 = .ok (.getfield 65, 3) := by decide +kernel
theorem dX12_folder_109 : decode cX12_folder 109 = .ok (.iconst 0, 1) := by decide +kernel
theorem dX12_folder_110 : decode cX12_folder 110 = .ok (.iload_n 3, 1) := by decide +kernel
theorem dX12_folder_111 : decode cX12_folder 111 = .ok (.iastore, 1) := by decide +kernel
theorem dX12_folder_112 : decode cX12_folder 112 = .ok (.aload_n 0, 1) := by decide +kernel
theorem dX12_folder_113 : decode cX12_folder 113 = .ok (.getfield 65, 3) := by decide +kernel
theorem dX12_folder_116 : decode cX12_folder 116 = .ok (.iconst 1, 1) := by decide +kernel
theorem dX12_folder_117 : decode cX12_folder 117 = .ok (.iload 4, 2) := by decide +kernel
theorem dX12_folder_119 : decode cX12_folder 119 = .ok (.iastore, 1) := by decide +kernel
theorem dX12_folder_120 : decode cX12_folder 120 = .ok (.aload_n 0, 1) := by decide +kernel
theorem dX12_folder_121 : decode cX12_folder 121 = .ok (.iload_n 2, 1) := by decide +kernel
theorem dX12_folder_122 : decode cX12_folder 122 = .ok (.putfield 109, 3) := by decide +kernel
theorem dX12_folder_125 : decode cX12_folder 125 = .ok (.return_, 1) := by decide +kernel
theorem dX12_gain_0 : decode cX12_gain 0 = .ok (.aload_n 0, 1) := by decide +kernel
theorem dX12_gain_1 : decode cX12_gain 1 = .ok (.getfield 40, 3) := by decide +kernel
theorem dX12_gain_4 : decode cX12_gain 4 = .ok (.iload_n 1, 1) := by decide +kernel
theorem dX12_gain_5 : decode cX12_gain 5 = .ok (.iaload, 1) := by decide +kernel
theorem dX12_gain_6 : decode cX12_gain 6 = .ok (.istore_n 2, 1) := by decide +kernel
theorem dX12_gain_7 : decode cX12_gain 7 = .ok (.iload_n 2, 1) := by decide +kernel
theorem dX12_gain_8 : decode cX12_gain 8 = .ok (.bipush 12, 2) := by decide +kernel
theorem dX12_gain_10 : decode cX12_gain 10 = .ok (.if_icmp .ne 13, 3) := by decide +kernel
theorem dX12_gain_13 : decode cX12_gain 13 = .ok (.aload_n 0, 1) := by decide +kernel
theorem dX12_gain_14 : decode cX12_gain 14 = .ok (.getfield 49, 3) := by decide +kernel
theorem dX12_gain_17 : decode cX12_gain 17 = .ok (.iload_n 1, 1) := by decide +kernel
theorem dX12_gain_18 : decode cX12_gain 18 = .ok (.aload_n 0, 1) := by decide +kernel
theorem dX12_gain_19 : decode cX12_gain 19 = .ok (.invokevirtual 98, 3) := by decide +kernel
theorem dX12_gain_22 : decode cX12_gain 22 = .ok (.iastore, 1) := by decide +kernel
theorem dX12_gain_23 : decode cX12_gain 23 = .ok (.iload_n 2, 1) := by decide +kernel
theorem dX12_gain_24 : decode cX12_gain 24 = .ok (.sipush 268, 3) := by decide +kernel
theorem dX12_gain_27 : decode cX12_gain 27 = .ok (.if_icmp .ne 13, 3) := by decide +kernel
theorem dX12_gain_30 : decode cX12_gain 30 = .ok (.aload_n 0, 1) := by decide +kernel
theorem dX12_gain_31 : decode cX12_gain 31 = .ok (.getfield 52, 3) := by decide +kernel
theorem dX12_gain_34 : decode cX12_gain 34 = .ok (.iload_n 1, 1) := by decide +kernel
theorem dX12_gain_35 : decode cX12_gain 35 = .ok (.aload_n 0, 1) := by decide +kernel
theorem dX12_gain_36 : decode cX12_gain 36 = .ok (.invokevirtual 98, 3) := by decide +kernel
theorem dX12_gain_39 : decode cX12_gain 39 = .ok (.iastore, 1) := by decide +kernel
theorem dX12_gain_40 : decode cX12_gain 40 = .ok (.iload_n 2, 1) := by decide +kernel
theorem dX12_gain_41 : decode cX12_gain 41 = .ok (.sipush 268, 3) := by decide +kernel
theorem dX12_gain_44 : decode cX12_gain 44 = .ok (.if_icmp .lt 80, 3) := by decide +kernel
theorem dX12_gain_47 : decode cX12_gain 47 = .ok (.iload_n 2, 1) := by decide +kernel
theorem dX12_gain_48 : decode cX12_gain 48 = .ok (.sipush 268, 3) := by decide +kernel
theorem dX12_gain_51 : decode cX12_gain 51 = .ok (.isub, 1) := by decide +kernel
theorem dX12_gain_52 : decode cX12_gain 52 = .ok (.sipush 256, 3) := by decide +kernel
theorem dX12_gain_55 : decode cX12_gain 55 = .ok (.irem, 1) := by decide +kernel
theorem dX12_gain_56 : decode cX12_gain 56 = .ok (.ifCond .ne 68, 3) := by decide +kernel
theorem dX12_gain_59 : decode cX12_gain 59 = .ok (.aload_n 0, 1) := by decide +kernel
theorem dX12_gain_60 : decode cX12_gain 60 = .ok (.invokevirtual 98, 3) := by decide +kernel
theorem dX12_gain_63 : decode cX12_gain 63 = .ok (.istore_n 3, 1) := by decide +kernel
theorem dX12_gain_64 : decode cX12_gain 64 = .ok (.aload_n 0, 1) := by decide +kernel
theorem dX12_gain_65 : decode cX12_gain 65 = .ok (.getfield 55, 3) := by decide +kernel
theorem dX12_gain_68 : decode cX12_gain 68 = .ok (.iload_n 1, 1) := by decide +kernel
theorem dX12_gain_69 : decode cX12_gain 69 = .ok (.iaload, 1) := by decide +kernel
theorem dX12_gain_70 : decode cX12_gain 70 = .ok (.istore 4, 2) := by decide +kernel
theorem dX12_gain_72 : decode cX12_gain 72 = .ok (.iload 4, 2) := by decide +kernel
theorem dX12_gain_74 : decode cX12_gain 74 = .ok (.ifCond .ne 10, 3) := by decide +kernel
theorem dX12_gain_77 : decode cX12_gain 77 = .ok (.aload_n 0, 1) := by decide +kernel
theorem dX12_gain_78 : decode cX12_gain 78 = .ok (.getfield 55, 3) := by decide +kernel
theorem dX12_gain_81 : decode cX12_gain 81 = .ok (.iload_n 1, 1) := by decide +kernel
theorem dX12_gain_82 : decode cX12_gain 82 = .ok (.iload_n 3, 1) := by decide +kernel
theorem dX12_gain_83 : decode cX12_gain 83 = .ok (.iastore, 1) := by decide +kernel
theorem dX12_gain_84 : decode cX12_gain 84 = .ok (.iload 4, 2) := by decide +kernel
theorem dX12_gain_86 : decode cX12_gain 86 = .ok (.ifCond .eq 25, 3) := by decide +kernel
theorem dX12_gain_89 : decode cX12_gain 89 = .ok (.aload_n 0, 1) := by decide +kernel
theorem dX12_gain_90 : decode cX12_gain 90 = .ok (.getfield 27, 3) := by decide +kernel
theorem dX12_gain_93 : decode cX12_gain 93 = .ok (.iload 4, 2) := by decide +kernel
theorem dX12_gain_95 : decode cX12_gain 95 = .ok (.iaload, 1) := by decide +kernel
theorem dX12_gain_96 : decode cX12_gain 96 = .ok (.ifCond .eq 15, 3) := by decide +kernel
theorem dX12_gain_99 : decode cX12_gain 99 = .ok (.aload_n 0, 1) := by decide +kernel
theorem dX12_gain_100 : decode cX12_gain 100 = .ok (.getfield 27, 3) := by decide +kernel
theorem dX12_gain_103 : decode cX12_gain 103 = .ok (.iload 4, 2) := by decide +kernel
theorem dX12_gain_105 : decode cX12_gain 105 = .ok (.iaload, 1) := by decide +kernel
theorem dX12_gain_106 : decode cX12_gain 106 = .ok (.istore 4, 2) := by decide +kernel
theorem dX12_gain_108 : decode cX12_gain 108 = .ok (.goto (-24), 3) := by decide +kernel
theorem dX12_gain_111 : decode cX12_gain 111 = .ok (.iload 4, 2) := by decide +kernel
theorem dX12_gain_113 : decode cX12_gain 113 = .ok (.ifCond .eq 11, 3) := by decide +kernel
theorem dX12_gain_116 : decode cX12_gain 116 = .ok (.aload_n 0, 1) := by decide +kernel
theorem dX12_gain_117 : decode cX12_gain 117 = .ok (.getfield 27, 3) := by decide +kernel
theorem dX12_gain_120 : decode cX12_gain 120 = .ok (.iload 4, 2) := by decide +kernel
theorem dX12_gain_122 : decode cX12_gain 122 = .ok (.iload_n 3, 1) := by decide +kernel
theorem dX12_gain_123 : decode cX12_gain 123 = .ok (.iastore, 1) := by decide +kernel
theorem dX12_gain_124 : decode cX12_gain 124 = .ok (.aload_n 0, 1) := by decide +kernel
theorem dX12_gain_125 : decode cX12_gain 125 = .ok (.invokevirtual 98, 3) := by decide +kernel
theorem dX12_gain_128 : decode cX12_gain 128 = .ok (.istore_n 3, 1) := by decide +kernel
theorem dX12_gain_129 : decode cX12_gain 129 = .ok (.iload_n 2, 1) := by decide +kernel
theorem dX12_gain_130 : decode cX12_gain 130 = .ok (.ifCond .ne 13, 3) := by decide +kernel
theorem dX12_gain_133 : decode cX12_gain 133 = .ok (.aload_n 0, 1) := by decide +kernel
theorem dX12_gain_134 : decode cX12_gain 134 = .ok (.getfield 43, 3) := by decide +kernel
theorem dX12_gain_137 : decode cX12_gain 137 = .ok (.iload_n 1, 1) := by decide +kernel
theorem dX12_gain_138 : decode cX12_gain 138 = .ok (.iload_n 3, 1) := by decide +kernel
theorem dX12_gain_139 : decode cX12_gain 139 = .ok (.iastore, 1) := by decide +kernel
theorem dX12_gain_140 : decode cX12_gain 140 = .ok (.goto 15, 3) := by decide +kernel
theorem dX12_gain_143 : decode cX12_gain 143 = .ok (.aload_n 0, 1) := by decide +kernel
theorem dX12_gain_144 : decode cX12_gain 144 = .ok (.getfield 27, 3) := by decide +kernel
theorem dX12_gain_147 : decode cX12_gain 147 = .ok (.aload_n 0, 1) := by decide +kernel
theorem dX12_gain_148 : decode cX12_gain 148 = .ok (.getfield 46, 3) := by decide +kernel
theorem dX12_gain_151 : decode cX12_gain 151 = .ok (.iload_n 1, 1) := by decide +kernel
theorem dX12_gain_152 : decode cX12_gain 152 = .ok (.iaload, 1) := by decide +kernel
theorem dX12_gain_153 : decode cX12_gain 153 = .ok (.iload_n 3, 1) := by decide +kernel
theorem dX12_gain_154 : decode cX12_gain 154 = .ok (.iastore, 1) := by decide +kernel
theorem dX12_gain_155 : decode cX12_gain 155 = .ok (.aload_n 0, 1) := by decide +kernel
theorem dX12_gain_156 : decode cX12_gain 156 = .ok (.getfield 46, 3) := by decide +kernel
theorem dX12_gain_159 : decode cX12_gain 159 = .ok (.iload_n 1, 1) := by decide +kernel
theorem dX12_gain_160 : decode cX12_gain 160 = .ok (.iload_n 3, 1) := by decide +kernel
theorem dX12_gain_161 : decode cX12_gain 161 = .ok (.iastore, 1) := by decide +kernel
theorem dX12_gain_162 : decode cX12_gain 162 = .ok (.aload_n 0, 1) := by decide +kernel
theorem dX12_gain_163 : decode cX12_gain 163 = .ok (.getfield 40, 3) := by decide +kernel
theorem dX12_gain_166 : decode cX12_gain 166 = .ok (.iload_n 1, 1) := by decide +kernel
theorem dX12_gain_167 : decode cX12_gain 167 = .ok (.dup2, 1) := by decide +kernel
theorem dX12_gain_168 : decode cX12_gain 168 = .ok (.iaload, 1) := by decide +kernel
theorem dX12_gain_169 : decode cX12_gain 169 = .ok (.iconst 1, 1) := by decide +kernel
theorem dX12_gain_170 : decode cX12_gain 170 = .ok (.iadd, 1) := by decide +kernel
theorem dX12_gain_171 : decode cX12_gain 171 = .ok (.iastore, 1) := by decide +kernel
theorem dX12_gain_172 : decode cX12_gain 172 = .ok (.return_, 1) := by decide +kernel
theorem dX12_take_0 : decode cX12_take 0 = .ok (.iconst 1, 1) := by decide +kernel
theorem dX12_take_1 : decode cX12_take 1 = .ok (.istore_n 1, 1) := by decide +kernel
theorem dX12_take_2 : decode cX12_take 2 = .ok (.aload_n 0, 1) := by decide +kernel
theorem dX12_take_3 : decode cX12_take 3 = .ok (.getfield 23, 3) := by decide +kernel
theorem dX12_take_6 : decode cX12_take 6 = .ok (.iload_n 1, 1) := by decide +kernel
theorem dX12_take_7 : decode cX12_take 7 = .ok (.baload, 1) := by decide +kernel
theorem dX12_take_8 : decode cX12_take 8 = .ok (.ifCond .eq 9, 3) := by decide +kernel
theorem dX12_take_11 : decode cX12_take 11 = .ok (.iinc 1 1, 3) := by decide +kernel
theorem dX12_take_14 : decode cX12_take 14 = .ok (.goto (-12), 3) := by decide +kernel
theorem dX12_take_17 : decode cX12_take 17 = .ok (.aload_n 0, 1) := by decide +kernel
theorem dX12_take_18 : decode cX12_take 18 = .ok (.getfield 23, 3) := by decide +kernel
theorem dX12_take_21 : decode cX12_take 21 = .ok (.iload_n 1, 1) := by decide +kernel
theorem dX12_take_22 : decode cX12_take 22 = .ok (.iconst 1, 1) := by decide +kernel
theorem dX12_take_23 : decode cX12_take 23 = .ok (.bastore, 1) := by decide +kernel
theorem dX12_take_24 : decode cX12_take 24 = .ok (.aload_n 0, 1) := by decide +kernel
theorem dX12_take_25 : decode cX12_take 25 = .ok (.getfield 27, 3) := by decide +kernel
theorem dX12_take_28 : decode cX12_take 28 = .ok (.iload_n 1, 1) := by decide +kernel
theorem dX12_take_29 : decode cX12_take 29 = .ok (.iconst 0, 1) := by decide +kernel
theorem dX12_take_30 : decode cX12_take 30 = .ok (.iastore, 1) := by decide +kernel
theorem dX12_take_31 : decode cX12_take 31 = .ok (.iconst 0, 1) := by decide +kernel
theorem dX12_take_32 : decode cX12_take 32 = .ok (.istore_n 2, 1) := by decide +kernel
theorem dX12_take_33 : decode cX12_take 33 = .ok (.iload_n 2, 1) := by decide +kernel
theorem dX12_take_34 : decode cX12_take 34 = .ok (.sipush 1024, 3) := by decide +kernel
theorem dX12_take_37 : decode cX12_take 37 = .ok (.if_icmp .ge 22, 3) := by decide +kernel
theorem dX12_take_40 : decode cX12_take 40 = .ok (.aload_n 0, 1) := by decide +kernel
theorem dX12_take_41 : decode cX12_take 41 = .ok (.getfield 8, 3) := by decide +kernel
theorem dX12_take_44 : decode cX12_take 44 = .ok (.sipush 1024, 3) := by decide +kernel
theorem dX12_take_47 : decode cX12_take 47 = .ok (.iload_n 1, 1) := by decide +kernel
theorem dX12_take_48 : decode cX12_take 48 = .ok (.imul, 1) := by decide +kernel
theorem dX12_take_49 : decode cX12_take 49 = .ok (.iload_n 2, 1) := by decide +kernel
theorem dX12_take_50 : decode cX12_take 50 = .ok (.iadd, 1) := by decide +kernel
theorem dX12_take_51 : decode cX12_take 51 = .ok (.iconst 0, 1) := by decide +kernel
theorem dX12_take_52 : decode cX12_take 52 = .ok (.bastore, 1) := by decide +kernel
theorem dX12_take_53 : decode cX12_take 53 = .ok (.iinc 2 1, 3) := by decide +kernel
theorem dX12_take_56 : decode cX12_take 56 = .ok (.goto (-23), 3) := by decide +kernel
theorem dX12_take_59 : decode cX12_take 59 = .ok (.iload_n 1, 1) := by decide +kernel
theorem dX12_take_60 : decode cX12_take 60 = .ok (.ireturn, 1) := by decide +kernel
theorem dX12_entry_0 : decode cX12_entry 0 = .ok (.bipush 8, 2) := by decide +kernel
theorem dX12_entry_2 : decode cX12_entry 2 = .ok (.aload_n 0, 1) := by decide +kernel
theorem dX12_entry_3 : decode cX12_entry 3 = .ok (.getfield 109, 3) := by decide +kernel
theorem dX12_entry_6 : decode cX12_entry 6 = .ok (.iconst 4, 1) := by decide +kernel
theorem dX12_entry_7 : decode cX12_entry 7 = .ok (.invokestatic 94, 3) := by decide +kernel
theorem dX12_entry_10 : decode cX12_entry 10 = .ok (.iconst 4, 1) := by decide +kernel
theorem dX12_entry_11 : decode cX12_entry 11 = .ok (.imul, 1) := by decide +kernel
theorem dX12_entry_12 : decode cX12_entry 12 = .ok (.iadd, 1) := by decide +kernel
theorem dX12_entry_13 : decode cX12_entry 13 = .ok (.istore 5, 2) := by decide +kernel
theorem dX12_entry_15 : decode cX12_entry 15 = .ok (.iconst 0, 1) := by decide +kernel
theorem dX12_entry_16 : decode cX12_entry 16 = .ok (.istore 6, 2) := by decide +kernel
theorem dX12_entry_18 : decode cX12_entry 18 = .ok (.iload 6, 2) := by decide +kernel
theorem dX12_entry_20 : decode cX12_entry 20 = .ok (.iload 5, 2) := by decide +kernel
theorem dX12_entry_22 : decode cX12_entry 22 = .ok (.if_icmp .ge 19, 3) := by decide +kernel
theorem dX12_entry_25 : decode cX12_entry 25 = .ok (.aload_n 0, 1) := by decide +kernel
theorem dX12_entry_26 : decode cX12_entry 26 = .ok (.getfield 8, 3) := by decide +kernel
theorem dX12_entry_29 : decode cX12_entry 29 = .ok (.iload_n 1, 1) := by decide +kernel
theorem dX12_entry_30 : decode cX12_entry 30 = .ok (.iload 6, 2) := by decide +kernel
theorem dX12_entry_32 : decode cX12_entry 32 = .ok (.iadd, 1) := by decide +kernel
theorem dX12_entry_33 : decode cX12_entry 33 = .ok (.iconst 0, 1) := by decide +kernel
theorem dX12_entry_34 : decode cX12_entry 34 = .ok (.bastore, 1) := by decide +kernel
theorem dX12_entry_35 : decode cX12_entry 35 = .ok (.iinc 6 1, 3) := by decide +kernel
theorem dX12_entry_38 : decode cX12_entry 38 = .ok (.goto (-20), 3) := by decide +kernel
theorem dX12_entry_41 : decode cX12_entry 41 = .ok (.aload_n 0, 1) := by decide +kernel
theorem dX12_entry_42 : decode cX12_entry 42 = .ok (.iload_n 1, 1) := by decide +kernel
theorem dX12_entry_43 : decode cX12_entry 43 = .ok (.iconst 4, 1) := by decide +kernel
theorem dX12_entry_44 : decode cX12_entry 44 = .ok (.iload_n 2, 1) := by decide +kernel
theorem dX12_entry_45 : decode cX12_entry 45 = .ok (.invokevirtual 112, 3) := by decide +kernel
theorem dX12_entry_48 : decode cX12_entry 48 = .ok (.aload_n 0, 1) := by decide +kernel
theorem dX12_entry_49 : decode cX12_entry 49 = .ok (.iload_n 1, 1) := by decide +kernel
theorem dX12_entry_50 : decode cX12_entry 50 = .ok (.iconst 4, 1) := by decide +kernel
theorem dX12_entry_51 : decode cX12_entry 51 = .ok (.iadd, 1) := by decide +kernel
theorem dX12_entry_52 : decode cX12_entry 52 = .ok (.iconst 2, 1) := by decide +kernel
theorem dX12_entry_53 : decode cX12_entry 53 = .ok (.iload_n 3, 1) := by decide +kernel
theorem dX12_entry_54 : decode cX12_entry 54 = .ok (.invokevirtual 112, 3) := by decide +kernel
theorem dX12_entry_57 : decode cX12_entry 57 = .ok (.aload_n 0, 1) := by decide +kernel
theorem dX12_entry_58 : decode cX12_entry 58 = .ok (.iload_n 1, 1) := by decide +kernel
theorem dX12_entry_59 : decode cX12_entry 59 = .ok (.bipush 6, 2) := by decide +kernel
theorem dX12_entry_61 : decode cX12_entry 61 = .ok (.iadd, 1) := by decide +kernel
theorem dX12_entry_62 : decode cX12_entry 62 = .ok (.iconst 1, 1) := by decide +kernel
theorem dX12_entry_63 : decode cX12_entry 63 = .ok (.aload_n 0, 1) := by decide +kernel
theorem dX12_entry_64 : decode cX12_entry 64 = .ok (.getfield 109, 3) := by decide +kernel
theorem dX12_entry_67 : decode cX12_entry 67 = .ok (.invokevirtual 112, 3) := by decide +kernel
theorem dX12_entry_70 : decode cX12_entry 70 = .ok (.aload_n 0, 1) := by decide +kernel
theorem dX12_entry_71 : decode cX12_entry 71 = .ok (.iload_n 1, 1) := by decide +kernel
theorem dX12_entry_72 : decode cX12_entry 72 = .ok (.bipush 7, 2) := by decide +kernel
theorem dX12_entry_74 : decode cX12_entry 74 = .ok (.iadd, 1) := by decide +kernel
theorem dX12_entry_75 : decode cX12_entry 75 = .ok (.iconst 1, 1) := by decide +kernel
theorem dX12_entry_76 : decode cX12_entry 76 = .ok (.iload 4, 2) := by decide +kernel
theorem dX12_entry_78 : decode cX12_entry 78 = .ok (.invokevirtual 112, 3) := by decide +kernel
theorem dX12_entry_81 : decode cX12_entry 81 = .ok (.iconst 0, 1) := by decide +kernel
theorem dX12_entry_82 : decode cX12_entry 82 = .ok (.istore 6, 2) := by decide +kernel
theorem dX12_entry_84 : decode cX12_entry 84 = .ok (.iload 6, 2) := by decide +kernel
theorem dX12_entry_86 : decode cX12_entry 86 = .ok (.aload_n 0, 1) := by decide +kernel
theorem dX12_entry_87 : decode cX12_entry 87 = .ok (.getfield 109, 3) := by decide +kernel
theorem dX12_entry_90 : decode cX12_entry 90 = .ok (.if_icmp .ge 29, 3) := by decide +kernel
theorem dX12_entry_93 : decode cX12_entry 93 = .ok (.aload_n 0, 1) := by decide +kernel
theorem dX12_entry_94 : decode cX12_entry 94 = .ok (.getfield 8, 3) := by decide +kernel
theorem dX12_entry_97 : decode cX12_entry 97 = .ok (.iload_n 1, 1) := by decide +kernel
theorem dX12_entry_98 : decode cX12_entry 98 = .ok (.bipush 8, 2) := by decide +kernel
theorem dX12_entry_100 : decode cX12_entry 100 = .ok (.iadd, 1) := by decide +kernel
theorem dX12_entry_101 : decode cX12_entry 101 = .ok (.iload 6, 2) := by decide +kernel
theorem dX12_entry_103 : decode cX12_entry 103 = .ok (.iadd, 1) := by decide +kernel
theorem dX12_entry_104 : decode cX12_entry 104 = .ok (.aload_n 0, 1) := by decide +kernel
theorem dX12_entry_105 : decode cX12_entry 105 = .ok (.getfield 65, 3) := by decide +kernel
theorem dX12_entry_108 : decode cX12_entry 108 = .ok (.iload 6, 2) := by decide +kernel
theorem dX12_entry_110 : decode cX12_entry 110 = .ok (.iaload, 1) := by decide +kernel
theorem dX12_entry_111 : decode cX12_entry 111 = .ok (.i2b, 1) := by decide +kernel
theorem dX12_entry_112 : decode cX12_entry 112 = .ok (.bastore, 1) := by decide +kernel
theorem dX12_entry_113 : decode cX12_entry 113 = .ok (.iinc 6 1, 3) := by decide +kernel
theorem dX12_entry_116 : decode cX12_entry 116 = .ok (.goto (-32), 3) := by decide +kernel
theorem dX12_entry_119 : decode cX12_entry 119 = .ok (.return_, 1) := by decide +kernel
theorem dX12_set_0 : decode cX12_set 0 = .ok (.iconst 0, 1) := by decide +kernel
theorem dX12_set_1 : decode cX12_set 1 = .ok (.istore 4, 2) := by decide +kernel
theorem dX12_set_3 : decode cX12_set 3 = .ok (.iload 4, 2) := by decide +kernel
theorem dX12_set_5 : decode cX12_set 5 = .ok (.iload_n 2, 1) := by decide +kernel
theorem dX12_set_6 : decode cX12_set 6 = .ok (.if_icmp .ge 26, 3) := by decide +kernel
theorem dX12_set_9 : decode cX12_set 9 = .ok (.aload_n 0, 1) := by decide +kernel
theorem dX12_set_10 : decode cX12_set 10 = .ok (.getfield 8, 3) := by decide +kernel
theorem dX12_set_13 : decode cX12_set 13 = .ok (.iload_n 1, 1) := by decide +kernel
theorem dX12_set_14 : decode cX12_set 14 = .ok (.iload 4, 2) := by decide +kernel
theorem dX12_set_16 : decode cX12_set 16 = .ok (.iadd, 1) := by decide +kernel
theorem dX12_set_17 : decode cX12_set 17 = .ok (.iload_n 3, 1) := by decide +kernel
theorem dX12_set_18 : decode cX12_set 18 = .ok (.bipush 8, 2) := by decide +kernel
theorem dX12_set_20 : decode cX12_set 20 = .ok (.iload 4, 2) := by decide +kernel
theorem dX12_set_22 : decode cX12_set 22 = .ok (.imul, 1) := by decide +kernel
theorem dX12_set_23 : decode cX12_set 23 = .ok (.ishr, 1) := by decide +kernel
theorem dX12_set_24 : decode cX12_set 24 = .ok (.i2b, 1) := by decide +kernel
theorem dX12_set_25 : decode cX12_set 25 = .ok (.bastore, 1) := by decide +kernel
theorem dX12_set_26 : decode cX12_set 26 = .ok (.iinc 4 1, 3) := by decide +kernel
theorem dX12_set_29 : decode cX12_set 29 = .ok (.goto (-26), 3) := by decide +kernel
theorem dX12_set_32 : decode cX12_set 32 = .ok (.return_, 1) := by decide +kernel
theorem dX12_freeBlocks_0 : decode cX12_freeBlocks 0 = .ok (.iconst 0, 1) := by decide +kernel
theorem dX12_freeBlocks_1 : decode cX12_freeBlocks 1 = .ok (.istore_n 1, 1) := by decide +kernel
theorem dX12_freeBlocks_2 : decode cX12_freeBlocks 2 = .ok (.iconst 1, 1) := by decide +kernel
theorem dX12_freeBlocks_3 : decode cX12_freeBlocks 3 = .ok (.istore_n 2, 1) := by decide +kernel
theorem dX12_freeBlocks_4 : decode cX12_freeBlocks 4 = .ok (.iload_n 2, 1) := by decide +kernel
theorem dX12_freeBlocks_5 : decode cX12_freeBlocks 5 = .ok (.aload_n 0, 1) := by decide +kernel
theorem dX12_freeBlocks_6 : decode cX12_freeBlocks 6 = .ok (.getfield 68, 3) := by decide +kernel
theorem dX12_freeBlocks_9 : decode cX12_freeBlocks 9 = .ok (.if_icmp .ge 26, 3) := by decide +kernel
theorem dX12_freeBlocks_12 : decode cX12_freeBlocks 12 = .ok (.iload_n 1, 1) := by decide +kernel
theorem dX12_freeBlocks_13 : decode cX12_freeBlocks 13 = .ok (.aload_n 0, 1) := by decide +kernel
theorem dX12_freeBlocks_14 : decode cX12_freeBlocks 14 = .ok (.getfield 23, 3) := by decide +kernel
theorem dX12_freeBlocks_17 : decode cX12_freeBlocks 17 = .ok (.iload_n 2, 1) := by decide +kernel
theorem dX12_freeBlocks_18 : decode cX12_freeBlocks 18 = .ok (.baload, 1) := by decide +kernel
theorem dX12_freeBlocks_19 : decode cX12_freeBlocks 19 = .ok (.ifCond .eq 7, 3) := by decide +kernel
theorem dX12_freeBlocks_22 : decode cX12_freeBlocks 22 = .ok (.iconst 0, 1) := by decide +kernel
theorem dX12_freeBlocks_23 : decode cX12_freeBlocks 23 = .ok (.goto 4, 3) := by decide +kernel
theorem dX12_freeBlocks_26 : decode cX12_freeBlocks 26 = .ok (.iconst 1, 1) := by decide +kernel
theorem dX12_freeBlocks_27 : decode cX12_freeBlocks 27 = .ok (.iadd, 1) := by decide +kernel
theorem dX12_freeBlocks_28 : decode cX12_freeBlocks 28 = .ok (.istore_n 1, 1) := by decide +kernel
theorem dX12_freeBlocks_29 : decode cX12_freeBlocks 29 = .ok (.iinc 2 1, 3) := by decide +kernel
theorem dX12_freeBlocks_32 : decode cX12_freeBlocks 32 = .ok (.goto (-28), 3) := by decide +kernel
theorem dX12_freeBlocks_35 : decode cX12_freeBlocks 35 = .ok (.iload_n 1, 1) := by decide +kernel
theorem dX12_freeBlocks_36 : decode cX12_freeBlocks 36 = .ok (.ireturn, 1) := by decide +kernel
theorem dX12_byteAt_0 : decode cX12_byteAt 0 = .ok (.aload_n 0, 1) := by decide +kernel
theorem dX12_byteAt_1 : decode cX12_byteAt 1 = .ok (.iconst 0, 1) := by decide +kernel
theorem dX12_byteAt_2 : decode cX12_byteAt 2 = .ok (.putfield 72, 3) := by decide +kernel
theorem dX12_byteAt_5 : decode cX12_byteAt 5 = .ok (.iload_n 1, 1) := by decide +kernel
theorem dX12_byteAt_6 : decode cX12_byteAt 6 = .ok (.ifCond .lt 15, 3) := by decide +kernel
theorem dX12_byteAt_9 : decode cX12_byteAt 9 = .ok (.iload_n 1, 1) := by decide +kernel
theorem dX12_byteAt_10 : decode cX12_byteAt 10 = .ok (.sipush 1024, 3) := by decide +kernel
theorem dX12_byteAt_13 : decode cX12_byteAt 13 = .ok (.aload_n 0, 1) := by decide +kernel
theorem dX12_byteAt_14 : decode cX12_byteAt 14 = .ok (.getfield 68, 3) := by decide +kernel
theorem dX12_byteAt_17 : decode cX12_byteAt 17 = .ok (.imul, 1) := by decide +kernel
theorem dX12_byteAt_18 : decode cX12_byteAt 18 = .ok (.if_icmp .lt 5, 3) := by decide +kernel
theorem dX12_byteAt_21 : decode cX12_byteAt 21 = .ok (.iconst (-1), 1) := by decide +kernel
theorem dX12_byteAt_22 : decode cX12_byteAt 22 = .ok (.ireturn, 1) := by decide +kernel
theorem dX12_byteAt_23 : decode cX12_byteAt 23 = .ok (.aload_n 0, 1) := by decide +kernel
theorem dX12_byteAt_24 : decode cX12_byteAt 24 = .ok (.getfield 133, 3) := by decide +kernel
theorem dX12_byteAt_27 : decode cX12_byteAt 27 = .ok (.ifCond .ne 5, 3) := by decide +kernel
theorem dX12_byteAt_30 : decode cX12_byteAt 30 = .ok (.iconst 0, 1) := by decide +kernel
theorem dX12_byteAt_31 : decode cX12_byteAt 31 = .ok (.ireturn, 1) := by decide +kernel
theorem dX12_byteAt_32 : decode cX12_byteAt 32 = .ok (.iload_n 1, 1) := by decide +kernel
theorem dX12_byteAt_33 : decode cX12_byteAt 33 = .ok (.sipush 1024, 3) := by decide +kernel
theorem dX12_byteAt_36 : decode cX12_byteAt 36 = .ok (.if_icmp .lt 18, 3) := by decide +kernel
theorem dX12_byteAt_39 : decode cX12_byteAt 39 = .ok (.aload_n 0, 1) := by decide +kernel
theorem dX12_byteAt_40 : decode cX12_byteAt 40 = .ok (.getfield 23, 3) := by decide +kernel
theorem dX12_byteAt_43 : decode cX12_byteAt 43 = .ok (.iload_n 1, 1) := by decide +kernel
theorem dX12_byteAt_44 : decode cX12_byteAt 44 = .ok (.sipush 1024, 3) := by decide +kernel
theorem dX12_byteAt_47 : decode cX12_byteAt 47 = .ok (.idiv, 1) := by decide +kernel
theorem dX12_byteAt_48 : decode cX12_byteAt 48 = .ok (.baload, 1) := by decide +kernel
theorem dX12_byteAt_49 : decode cX12_byteAt 49 = .ok (.ifCond .ne 5, 3) := by decide +kernel
theorem dX12_byteAt_52 : decode cX12_byteAt 52 = .ok (.iconst (-1), 1) := by decide +kernel
theorem dX12_byteAt_53 : decode cX12_byteAt 53 = .ok (.ireturn, 1) := by decide +kernel
theorem dX12_byteAt_54 : decode cX12_byteAt 54 = .ok (.aload_n 0, 1) := by decide +kernel
theorem dX12_byteAt_55 : decode cX12_byteAt 55 = .ok (.invokevirtual 186, 3) := by decide +kernel
theorem dX12_byteAt_58 : decode cX12_byteAt 58 = .ok (.aload_n 0, 1) := by decide +kernel
theorem dX12_byteAt_59 : decode cX12_byteAt 59 = .ok (.getfield 14, 3) := by decide +kernel
theorem dX12_byteAt_62 : decode cX12_byteAt 62 = .ok (.iload_n 1, 1) := by decide +kernel
theorem dX12_byteAt_63 : decode cX12_byteAt 63 = .ok (.baload, 1) := by decide +kernel
theorem dX12_byteAt_64 : decode cX12_byteAt 64 = .ok (.sipush 255, 3) := by decide +kernel
theorem dX12_byteAt_67 : decode cX12_byteAt 67 = .ok (.iand, 1) := by decide +kernel
theorem dX12_byteAt_68 : decode cX12_byteAt 68 = .ok (.ireturn, 1) := by decide +kernel
theorem dX12_show_0 : decode cX12_show 0 = .ok (.aload_n 0, 1) := by decide +kernel
theorem dX12_show_1 : decode cX12_show 1 = .ok (.getfield 137, 3) := by decide +kernel
theorem dX12_show_4 : decode cX12_show 4 = .ok (.ifCond .eq 4, 3) := by decide +kernel
theorem dX12_show_7 : decode cX12_show 7 = .ok (.return_, 1) := by decide +kernel
theorem dX12_show_8 : decode cX12_show 8 = .ok (.aload_n 0, 1) := by decide +kernel
theorem dX12_show_9 : decode cX12_show 9 = .ok (.iconst 1, 1) := by decide +kernel
theorem dX12_show_10 : decode cX12_show 10 = .ok (.putfield 137, 3) := by decide +kernel
theorem dX12_show_13 : decode cX12_show 13 = .ok (.iconst 0, 1) := by decide +kernel
theorem dX12_show_14 : decode cX12_show 14 = .ok (.istore_n 1, 1) := by decide +kernel
theorem dX12_show_15 : decode cX12_show 15 = .ok (.iload_n 1, 1) := by decide +kernel
theorem dX12_show_16 : decode cX12_show 16 = .ok (.sipush 1024, 3) := by decide +kernel
theorem dX12_show_19 : decode cX12_show 19 = .ok (.aload_n 0, 1) := by decide +kernel
theorem dX12_show_20 : decode cX12_show 20 = .ok (.getfield 68, 3) := by decide +kernel
theorem dX12_show_23 : decode cX12_show 23 = .ok (.imul, 1) := by decide +kernel
theorem dX12_show_24 : decode cX12_show 24 = .ok (.if_icmp .ge 16, 3) := by decide +kernel
theorem dX12_show_27 : decode cX12_show 27 = .ok (.aload_n 0, 1) := by decide +kernel
theorem dX12_show_28 : decode cX12_show 28 = .ok (.getfield 14, 3) := by decide +kernel
theorem dX12_show_31 : decode cX12_show 31 = .ok (.iload_n 1, 1) := by decide +kernel
theorem dX12_show_32 : decode cX12_show 32 = .ok (.iconst 0, 1) := by decide +kernel
theorem dX12_show_33 : decode cX12_show 33 = .ok (.bastore, 1) := by decide +kernel
theorem dX12_show_34 : decode cX12_show 34 = .ok (.iinc 1 1, 3) := by decide +kernel
theorem dX12_show_37 : decode cX12_show 37 = .ok (.goto (-22), 3) := by decide +kernel
theorem dX12_show_40 : decode cX12_show 40 = .ok (.iconst 0, 1) := by decide +kernel
theorem dX12_show_41 : decode cX12_show 41 = .ok (.istore_n 1, 1) := by decide +kernel
theorem dX12_show_42 : decode cX12_show 42 = .ok (.iload_n 1, 1) := by decide +kernel
theorem dX12_show_43 : decode cX12_show 43 = .ok (.aload_n 0, 1) := by decide +kernel
theorem dX12_show_44 : decode cX12_show 44 = .ok (.getfield 81, 3) := by decide +kernel
theorem dX12_show_47 : decode cX12_show 47 = .ok (.if_icmp .ge 14, 3) := by decide +kernel
theorem dX12_show_50 : decode cX12_show 50 = .ok (.aload_n 0, 1) := by decide +kernel
theorem dX12_show_51 : decode cX12_show 51 = .ok (.iload_n 1, 1) := by decide +kernel
theorem dX12_show_52 : decode cX12_show 52 = .ok (.invokevirtual 180, 3) := by decide +kernel
theorem dX12_show_55 : decode cX12_show 55 = .ok (.iinc 1 1, 3) := by decide +kernel
theorem dX12_show_58 : decode cX12_show 58 = .ok (.goto (-16), 3) := by decide +kernel
theorem dX12_show_61 : decode cX12_show 61 = .ok (.iconst 1, 1) := by decide +kernel
theorem dX12_show_62 : decode cX12_show 62 = .ok (.istore_n 1, 1) := by decide +kernel
theorem dX12_show_63 : decode cX12_show 63 = .ok (.iload_n 1, 1) := by decide +kernel
theorem dX12_show_64 : decode cX12_show 64 = .ok (.aload_n 0, 1) := by decide +kernel
theorem dX12_show_65 : decode cX12_show 65 = .ok (.getfield 81, 3) := by decide +kernel
theorem dX12_show_68 : decode cX12_show 68 = .ok (.aload_n 0, 1) := by decide +kernel
theorem dX12_show_69 : decode cX12_show 69 = .ok (.getfield 91, 3) := by decide +kernel
theorem dX12_show_72 : decode cX12_show 72 = .ok (.imul, 1) := by decide +kernel
theorem dX12_show_73 : decode cX12_show 73 = .ok (.if_icmp .gt 34, 3) := by decide +kernel
theorem dX12_show_76 : decode cX12_show 76 = .ok (.aload_n 0, 1) := by decide +kernel
theorem dX12_show_77 : decode cX12_show 77 = .ok (.getfield 31, 3) := by decide +kernel
theorem dX12_show_80 : decode cX12_show 80 = .ok (.iload_n 1, 1) := by decide +kernel
theorem dX12_show_81 : decode cX12_show 81 = .ok (.iaload, 1) := by decide +kernel
theorem dX12_show_82 : decode cX12_show 82 = .ok (.iconst 1, 1) := by decide +kernel
theorem dX12_show_83 : decode cX12_show 83 = .ok (.if_icmp .eq 13, 3) := by decide +kernel
theorem dX12_show_86 : decode cX12_show 86 = .ok (.aload_n 0, 1) := by decide +kernel
theorem dX12_show_87 : decode cX12_show 87 = .ok (.getfield 31, 3) := by decide +kernel
theorem dX12_show_90 : decode cX12_show 90 = .ok (.iload_n 1, 1) := by decide +kernel
theorem dX12_show_91 : decode cX12_show 91 = .ok (.iaload, 1) := by decide +kernel
theorem dX12_show_92 : decode cX12_show 92 = .ok (.iconst 2, 1) := by decide +kernel
theorem dX12_show_93 : decode cX12_show 93 = .ok (.if_icmp .ne 8, 3) := by decide +kernel
theorem dX12_show_96 : decode cX12_show 96 = .ok (.aload_n 0, 1) := by decide +kernel
theorem dX12_show_97 : decode cX12_show 97 = .ok (.iload_n 1, 1) := by decide +kernel
theorem dX12_show_98 : decode cX12_show 98 = .ok (.invokevirtual 183, 3) := by decide +kernel
theorem dX12_show_101 : decode cX12_show 101 = .ok (.iinc 1 1, 3) := by decide +kernel
theorem dX12_show_104 : decode cX12_show 104 = .ok (.goto (-41), 3) := by decide +kernel
theorem dX12_show_107 : decode cX12_show 107 = .ok (.return_, 1) := by decide +kernel
theorem dX12_showGroup_0 : decode cX12_showGroup 0 = .ok (.sipush 1024, 3) := by decide +kernel
theorem dX12_showGroup_3 : decode cX12_showGroup 3 = .ok (.aload_n 0, 1) := by decide +kernel
theorem dX12_showGroup_4 : decode cX12_showGroup 4 = .ok (.iload_n 1, 1) := by decide +kernel
theorem dX12_showGroup_5 : decode cX12_showGroup 5 = .ok (.invokevirtual 84, 3) := by decide +kernel
theorem dX12_showGroup_8 : decode cX12_showGroup 8 = .ok (.iconst 2, 1) := by decide +kernel
theorem dX12_showGroup_9 : decode cX12_showGroup 9 = .ok (.iadd, 1) := by decide +kernel
theorem dX12_showGroup_10 : decode cX12_showGroup 10 = .ok (.imul, 1) := by decide +kernel
theorem dX12_showGroup_11 : decode cX12_showGroup 11 = .ok (.istore_n 2, 1) := by decide +kernel
theorem dX12_showGroup_12 : decode cX12_showGroup 12 = .ok (.iconst 0, 1) := by decide +kernel
theorem dX12_showGroup_13 : decode cX12_showGroup 13 = .ok (.istore_n 3, 1) := by decide +kernel
theorem dX12_showGroup_14 : decode cX12_showGroup 14 = .ok (.iconst 0, 1) := by decide +kernel
theorem dX12_showGroup_15 : decode cX12_showGroup 15 = .ok (.istore 4, 2) := by decide +kernel
theorem dX12_showGroup_17 : decode cX12_showGroup 17 = .ok (.iconst 0, 1) := by decide +kernel
theorem dX12_showGroup_18 : decode cX12_showGroup 18 = .ok (.istore 5, 2) := by decide +kernel
theorem dX12_showGroup_20 : decode cX12_showGroup 20 = .ok (.iconst 0, 1) := by decide +kernel
theorem dX12_showGroup_21 : decode cX12_showGroup 21 = .ok (.istore 6, 2) := by decide +kernel
theorem dX12_showGroup_23 : decode cX12_showGroup 23 = .ok (.iload 6, 2) := by decide +kernel
theorem dX12_showGroup_25 : decode cX12_showGroup 25 = .ok (.sipush 8192, 3) := by decide +kernel
theorem dX12_showGroup_28 : decode cX12_showGroup 28 = .ok (.if_icmp .ge 190, 3) := by decide +kernel
theorem dX12_showGroup_31 : decode cX12_showGroup 31 = .ok (.iload 6, 2) := by decide +kernel
theorem dX12_showGroup_33 : decode cX12_showGroup 33 = .ok (.aload_n 0, 1) := by decide +kernel
theorem dX12_showGroup_34 : decode cX12_showGroup 34 = .ok (.iload_n 1, 1) := by decide +kernel
theorem dX12_showGroup_35 : decode cX12_showGroup 35 = .ok (.invokevirtual 164, 3) := by decide +kernel
theorem dX12_showGroup_38 : decode cX12_showGroup 38 = .ok (.if_icmp .ge 19, 3) := by decide +kernel
theorem dX12_showGroup_41 : decode cX12_showGroup 41 = .ok (.aload_n 0, 1) := by decide +kernel
theorem dX12_showGroup_42 : decode cX12_showGroup 42 = .ok (.getfield 23, 3) := by decide +kernel
theorem dX12_showGroup_45 : decode cX12_showGroup 45 = .ok (.aload_n 0, 1) := by decide +kernel
theorem dX12_showGroup_46 : decode cX12_showGroup 46 = .ok (.iload_n 1, 1) := by decide +kernel
theorem dX12_showGroup_47 : decode cX12_showGroup 47 = .ok (.invokevirtual 84, 3) := by decide +kernel
theorem dX12_showGroup_50 : decode cX12_showGroup 50 = .ok (.iload 6, 2) := by decide +kernel
theorem dX12_showGroup_52 : decode cX12_showGroup 52 = .ok (.iadd, 1) := by decide +kernel
theorem dX12_showGroup_53 : decode cX12_showGroup 53 = .ok (.baload, 1) := by decide +kernel
theorem dX12_showGroup_54 : decode cX12_showGroup 54 = .ok (.ifCond .eq 7, 3) := by decide +kernel
theorem dX12_showGroup_57 : decode cX12_showGroup 57 = .ok (.iconst 1, 1) := by decide +kernel
theorem dX12_showGroup_58 : decode cX12_showGroup 58 = .ok (.goto 4, 3) := by decide +kernel
theorem dX12_showGroup_61 : decode cX12_showGroup 61 = .ok (.iconst 0, 1) := by decide +kernel
theorem dX12_showGroup_62 : decode cX12_showGroup 62 = .ok (.istore 7, 2) := by decide +kernel
theorem dX12_showGroup_64 : decode cX12_showGroup 64 = .ok (.iload 6, 2) := by decide +kernel
theorem dX12_showGroup_66 : decode cX12_showGroup 66 = .ok (.aload_n 0, 1) := by decide +kernel
theorem dX12_showGroup_67 : decode cX12_showGroup 67 = .ok (.getfield 91, 3) := by decide +kernel
theorem dX12_showGroup_70 : decode cX12_showGroup 70 = .ok (.if_icmp .ge 22, 3) := by decide +kernel
theorem dX12_showGroup_73 : decode cX12_showGroup 73 = .ok (.aload_n 0, 1) := by decide +kernel
theorem dX12_showGroup_74 : decode cX12_showGroup 74 = .ok (.getfield 31, 3) := by decide +kernel
theorem dX12_showGroup_77 : decode cX12_showGroup 77 = .ok (.iload_n 1, 1) := by decide +kernel
theorem dX12_showGroup_78 : decode cX12_showGroup 78 = .ok (.aload_n 0, 1) := by decide +kernel
theorem dX12_showGroup_79 : decode cX12_showGroup 79 = .ok (.getfield 91, 3) := by decide +kernel
theorem dX12_showGroup_82 : decode cX12_showGroup 82 = .ok (.imul, 1) := by decide +kernel
theorem dX12_showGroup_83 : decode cX12_showGroup 83 = .ok (.iload 6, 2) := by decide +kernel
theorem dX12_showGroup_85 : decode cX12_showGroup 85 = .ok (.iadd, 1) := by decide +kernel
theorem dX12_showGroup_86 : decode cX12_showGroup 86 = .ok (.iconst 1, 1) := by decide +kernel
theorem dX12_showGroup_87 : decode cX12_showGroup 87 = .ok (.iadd, 1) := by decide +kernel
theorem dX12_showGroup_88 : decode cX12_showGroup 88 = .ok (.iaload, 1) := by decide +kernel
theorem dX12_showGroup_89 : decode cX12_showGroup 89 = .ok (.ifCond .eq 7, 3) := by decide +kernel
theorem dX12_showGroup_92 : decode cX12_showGroup 92 = .ok (.iconst 1, 1) := by decide +kernel
theorem dX12_showGroup_93 : decode cX12_showGroup 93 = .ok (.goto 4, 3) := by decide +kernel
theorem dX12_showGroup_96 : decode cX12_showGroup 96 = .ok (.iconst 0, 1) := by decide +kernel
theorem dX12_showGroup_97 : decode cX12_showGroup 97 = .ok (.istore 8, 2) := by decide +kernel
theorem dX12_showGroup_99 : decode cX12_showGroup 99 = .ok (.iload 7, 2) := by decide +kernel
theorem dX12_showGroup_101 : decode cX12_showGroup 101 = .ok (.ifCond .eq 30, 3) := by decide +kernel
theorem dX12_showGroup_104 : decode cX12_showGroup 104 = .ok (.aload_n 0, 1) := by decide +kernel
theorem dX12_showGroup_105 : decode cX12_showGroup 105 = .ok (.getfield 14, 3) := by decide +kernel
theorem dX12_showGroup_108 : decode cX12_showGroup 108 = .ok (.iload_n 2, 1) := by decide +kernel
theorem dX12_showGroup_109 : decode cX12_showGroup 109 = .ok (.iload 6, 2) := by decide +kernel
theorem dX12_showGroup_111 : decode cX12_showGroup 111 = .ok (.bipush 8, 2) := by decide +kernel
theorem dX12_showGroup_113 : decode cX12_showGroup 113 = .ok (.idiv, 1) := by decide +kernel
theorem dX12_showGroup_114 : decode cX12_showGroup 114 = .ok (.iadd, 1) := by decide +kernel
theorem dX12_showGroup_115 : decode cX12_showGroup 115 = .ok (.dup2, 1) := by decide +kernel
theorem dX12_showGroup_116 : decode cX12_showGroup 116 = .ok (.baload, 1) := by decide +kernel
theorem dX12_showGroup_117 : decode cX12_showGroup 117 = .ok (.iconst 1, 1) := by decide +kernel
theorem dX12_showGroup_118 : decode cX12_showGroup 118 = .ok (.iload 6, 2) := by decide +kernel
theorem dX12_showGroup_120 : decode cX12_showGroup 120 = .ok (.bipush 8, 2) := by decide +kernel
theorem dX12_showGroup_122 : decode cX12_showGroup 122 = .ok (.irem, 1) := by decide +kernel
theorem dX12_showGroup_123 : decode cX12_showGroup 123 = .ok (.ishl, 1) := by decide +kernel
theorem dX12_showGroup_124 : decode cX12_showGroup 124 = .ok (.i2b, 1) := by decide +kernel
theorem dX12_showGroup_125 : decode cX12_showGroup 125 = .ok (.ior, 1) := by decide +kernel
theorem dX12_showGroup_126 : decode cX12_showGroup 126 = .ok (.i2b, 1) := by decide +kernel
theorem dX12_showGroup_127 : decode cX12_showGroup 127 = .ok (.bastore, 1) := by decide +kernel
theorem dX12_showGroup_128 : decode cX12_showGroup 128 = .ok (.goto 6, 3) := by decide +kernel
theorem dX12_showGroup_131 : decode cX12_showGroup 131 = .ok (.iinc 3 1, 3) := by decide +kernel
theorem dX12_showGroup_134 : decode cX12_showGroup 134 = .ok (.iload 8, 2) := by decide +kernel
theorem dX12_showGroup_136 : decode cX12_showGroup 136 = .ok (.ifCond .eq 34, 3) := by decide +kernel
theorem dX12_showGroup_139 : decode cX12_showGroup 139 = .ok (.aload_n 0, 1) := by decide +kernel
theorem dX12_showGroup_140 : decode cX12_showGroup 140 = .ok (.getfield 14, 3) := by decide +kernel
theorem dX12_showGroup_143 : decode cX12_showGroup 143 = .ok (.iload_n 2, 1) := by decide +kernel
theorem dX12_showGroup_144 : decode cX12_showGroup 144 = .ok (.sipush 1024, 3) := by decide +kernel
theorem dX12_showGroup_147 : decode cX12_showGroup 147 = .ok (.iadd, 1) := by decide +kernel
theorem dX12_showGroup_148 : decode cX12_showGroup 148 = .ok (.iload 6, 2) := by decide +kernel
theorem dX12_showGroup_150 : decode cX12_showGroup 150 = .ok (.bipush 8, 2) := by decide +kernel
theorem dX12_showGroup_152 : decode cX12_showGroup 152 = .ok (.idiv, 1) := by decide +kernel
theorem dX12_showGroup_153 : decode cX12_showGroup 153 = .ok (.iadd, 1) := by decide +kernel
theorem dX12_showGroup_154 : decode cX12_showGroup 154 = .ok (.dup2, 1) := by decide +kernel
theorem dX12_showGroup_155 : decode cX12_showGroup 155 = .ok (.baload, 1) := by decide +kernel
theorem dX12_showGroup_156 : decode cX12_showGroup 156 = .ok (.iconst 1, 1) := by decide +kernel
theorem dX12_showGroup_157 : decode cX12_showGroup 157 = .ok (.iload 6, 2) := by decide +kernel
theorem dX12_showGroup_159 : decode cX12_showGroup 159 = .ok (.bipush 8, 2) := by decide +kernel
theorem dX12_showGroup_161 : decode cX12_showGroup 161 = .ok (.irem, 1) := by decide +kernel
theorem dX12_showGroup_162 : decode cX12_showGroup 162 = .ok (.ishl, 1) := by decide +kernel
theorem dX12_showGroup_163 : decode cX12_showGroup 163 = .ok (.i2b, 1) := by decide +kernel
theorem dX12_showGroup_164 : decode cX12_showGroup 164 = .ok (.ior, 1) := by decide +kernel
theorem dX12_showGroup_165 : decode cX12_showGroup 165 = .ok (.i2b, 1) := by decide +kernel
theorem dX12_showGroup_166 : decode cX12_showGroup 166 = .ok (.bastore, 1) := by decide +kernel
theorem dX12_showGroup_167 : decode cX12_showGroup 167 = .ok (.goto 6, 3) := by decide +kernel
theorem dX12_showGroup_170 : decode cX12_showGroup 170 = .ok (.iinc 4 1, 3) := by decide +kernel
theorem dX12_showGroup_173 : decode cX12_showGroup 173 = .ok (.iload 5, 2) := by decide +kernel
theorem dX12_showGroup_175 : decode cX12_showGroup 175 = .ok (.iload 6, 2) := by decide +kernel
theorem dX12_showGroup_177 : decode cX12_showGroup 177 = .ok (.aload_n 0, 1) := by decide +kernel
theorem dX12_showGroup_178 : decode cX12_showGroup 178 = .ok (.getfield 91, 3) := by decide +kernel
theorem dX12_showGroup_181 : decode cX12_showGroup 181 = .ok (.if_icmp .ge 27, 3) := by decide +kernel
theorem dX12_showGroup_184 : decode cX12_showGroup 184 = .ok (.aload_n 0, 1) := by decide +kernel
theorem dX12_showGroup_185 : decode cX12_showGroup 185 = .ok (.getfield 31, 3) := by decide +kernel
theorem dX12_showGroup_188 : decode cX12_showGroup 188 = .ok (.iload_n 1, 1) := by decide +kernel
theorem dX12_showGroup_189 : decode cX12_showGroup 189 = .ok (.aload_n 0, 1) := by decide +kernel
theorem dX12_showGroup_190 : decode cX12_showGroup 190 = .ok (.getfield 91, 3) := by decide +kernel
theorem dX12_showGroup_193 : decode cX12_showGroup 193 = .ok (.imul, 1) := by decide +kernel
theorem dX12_showGroup_194 : decode cX12_showGroup 194 = .ok (.iload 6, 2) := by decide +kernel
theorem dX12_showGroup_196 : decode cX12_showGroup 196 = .ok (.iadd, 1) := by decide +kernel
theorem dX12_showGroup_197 : decode cX12_showGroup 197 = .ok (.iconst 1, 1) := by decide +kernel
theorem dX12_showGroup_198 : decode cX12_showGroup 198 = .ok (.iadd, 1) := by decide +kernel
theorem dX12_showGroup_199 : decode cX12_showGroup 199 = .ok (.iaload, 1) := by decide +kernel
theorem dX12_showGroup_200 : decode cX12_showGroup 200 = .ok (.iconst 2, 1) := by decide +kernel
theorem dX12_showGroup_201 : decode cX12_showGroup 201 = .ok (.if_icmp .ne 7, 3) := by decide +kernel
theorem dX12_showGroup_204 : decode cX12_showGroup 204 = .ok (.iconst 1, 1) := by decide +kernel
theorem dX12_showGroup_205 : decode cX12_showGroup 205 = .ok (.goto 4, 3) := by decide +kernel
theorem dX12_showGroup_208 : decode cX12_showGroup 208 = .ok (.iconst 0, 1) := by decide +kernel
theorem dX12_showGroup_209 : decode cX12_showGroup 209 = .ok (.iadd, 1) := by decide +kernel
theorem dX12_showGroup_210 : decode cX12_showGroup 210 = .ok (.istore 5, 2) := by decide +kernel
theorem dX12_showGroup_212 : decode cX12_showGroup 212 = .ok (.iinc 6 1, 3) := by decide +kernel
theorem dX12_showGroup_215 : decode cX12_showGroup 215 = .ok (.goto (-192), 3) := by decide +kernel
theorem dX12_showGroup_218 : decode cX12_showGroup 218 = .ok (.iconst 0, 1) := by decide +kernel
theorem dX12_showGroup_219 : decode cX12_showGroup 219 = .ok (.istore 6, 2) := by decide +kernel
theorem dX12_showGroup_221 : decode cX12_showGroup 221 = .ok (.iload 6, 2) := by decide +kernel
theorem dX12_showGroup_223 : decode cX12_showGroup 223 = .ok (.aload_n 0, 1) := by decide +kernel
theorem dX12_showGroup_224 : decode cX12_showGroup 224 = .ok (.getfield 81, 3) := by decide +kernel
theorem dX12_showGroup_227 : decode cX12_showGroup 227 = .ok (.if_icmp .ge 116, 3) := by decide +kernel
theorem dX12_showGroup_230 : decode cX12_showGroup 230 = .ok (.sipush 1024, 3) := by decide +kernel
theorem dX12_showGroup_233 : decode cX12_showGroup 233 = .ok (.aload_n 0, 1) := by decide +kernel
theorem dX12_showGroup_234 : decode cX12_showGroup 234 = .ok (.iload 6, 2) := by decide +kernel
theorem dX12_showGroup_236 : decode cX12_showGroup 236 = .ok (.invokevirtual 84, 3) := by decide +kernel
theorem dX12_showGroup_239 : decode cX12_showGroup 239 = .ok (.iconst 1, 1) := by decide +kernel
theorem dX12_showGroup_240 : decode cX12_showGroup 240 = .ok (.iadd, 1) := by decide +kernel
theorem dX12_showGroup_241 : decode cX12_showGroup 241 = .ok (.imul, 1) := by decide +kernel
theorem dX12_showGroup_242 : decode cX12_showGroup 242 = .ok (.bipush 32, 2) := by decide +kernel
theorem dX12_showGroup_244 : decode cX12_showGroup 244 = .ok (.iload_n 1, 1) := by decide +kernel
theorem dX12_showGroup_245 : decode cX12_showGroup 245 = .ok (.imul, 1) := by decide +kernel
theorem dX12_showGroup_246 : decode cX12_showGroup 246 = .ok (.iadd, 1) := by decide +kernel
theorem dX12_showGroup_247 : decode cX12_showGroup 247 = .ok (.istore 7, 2) := by decide +kernel
theorem dX12_showGroup_249 : decode cX12_showGroup 249 = .ok (.aload_n 0, 1) := by decide +kernel
theorem dX12_showGroup_250 : decode cX12_showGroup 250 = .ok (.iload 7, 2) := by decide +kernel
theorem dX12_showGroup_252 : decode cX12_showGroup 252 = .ok (.iconst 4, 1) := by decide +kernel
theorem dX12_showGroup_253 : decode cX12_showGroup 253 = .ok (.aload_n 0, 1) := by decide +kernel
theorem dX12_showGroup_254 : decode cX12_showGroup 254 = .ok (.iload_n 1, 1) := by decide +kernel
theorem dX12_showGroup_255 : decode cX12_showGroup 255 = .ok (.invokevirtual 84, 3) := by decide +kernel
theorem dX12_showGroup_258 : decode cX12_showGroup 258 = .ok (.iconst 2, 1) := by decide +kernel
theorem dX12_showGroup_259 : decode cX12_showGroup 259 = .ok (.iadd, 1) := by decide +kernel
theorem dX12_showGroup_260 : decode cX12_showGroup 260 = .ok (.i2l, 1) := by decide +kernel
theorem dX12_showGroup_261 : decode cX12_showGroup 261 = .ok (.invokevirtual 157, 3) := by decide +kernel
theorem dX12_showGroup_264 : decode cX12_showGroup 264 = .ok (.aload_n 0, 1) := by decide +kernel
theorem dX12_showGroup_265 : decode cX12_showGroup 265 = .ok (.iload 7, 2) := by decide +kernel
theorem dX12_showGroup_267 : decode cX12_showGroup 267 = .ok (.iconst 4, 1) := by decide +kernel
theorem dX12_showGroup_268 : decode cX12_showGroup 268 = .ok (.iadd, 1) := by decide +kernel
theorem dX12_showGroup_269 : decode cX12_showGroup 269 = .ok (.iconst 4, 1) := by decide +kernel
theorem dX12_showGroup_270 : decode cX12_showGroup 270 = .ok (.aload_n 0, 1) := by decide +kernel
theorem dX12_showGroup_271 : decode cX12_showGroup 271 = .ok (.iload_n 1, 1) := by decide +kernel
theorem dX12_showGroup_272 : decode cX12_showGroup 272 = .ok (.invokevirtual 84, 3) := by decide +kernel
theorem dX12_showGroup_275 : decode cX12_showGroup 275 = .ok (.iconst 3, 1) := by decide +kernel
theorem dX12_showGroup_276 : decode cX12_showGroup 276 = .ok (.iadd, 1) := by decide +kernel
theorem dX12_showGroup_277 : decode cX12_showGroup 277 = .ok (.i2l, 1) := by decide +kernel
theorem dX12_showGroup_278 : decode cX12_showGroup 278 = .ok (.invokevirtual 157, 3) := by decide +kernel
theorem dX12_showGroup_281 : decode cX12_showGroup 281 = .ok (.aload_n 0, 1) := by decide +kernel
theorem dX12_showGroup_282 : decode cX12_showGroup 282 = .ok (.iload 7, 2) := by decide +kernel
theorem dX12_showGroup_284 : decode cX12_showGroup 284 = .ok (.bipush 8, 2) := by decide +kernel
theorem dX12_showGroup_286 : decode cX12_showGroup 286 = .ok (.iadd, 1) := by decide +kernel
theorem dX12_showGroup_287 : decode cX12_showGroup 287 = .ok (.iconst 4, 1) := by decide +kernel
theorem dX12_showGroup_288 : decode cX12_showGroup 288 = .ok (.aload_n 0, 1) := by decide +kernel
theorem dX12_showGroup_289 : decode cX12_showGroup 289 = .ok (.iload_n 1, 1) := by decide +kernel
theorem dX12_showGroup_290 : decode cX12_showGroup 290 = .ok (.invokevirtual 84, 3) := by decide +kernel
theorem dX12_showGroup_293 : decode cX12_showGroup 293 = .ok (.iconst 4, 1) := by decide +kernel
theorem dX12_showGroup_294 : decode cX12_showGroup 294 = .ok (.iadd, 1) := by decide +kernel
theorem dX12_showGroup_295 : decode cX12_showGroup 295 = .ok (.i2l, 1) := by decide +kernel
theorem dX12_showGroup_296 : decode cX12_showGroup 296 = .ok (.invokevirtual 157, 3) := by decide +kernel
theorem dX12_showGroup_299 : decode cX12_showGroup 299 = .ok (.aload_n 0, 1) := by decide +kernel
theorem dX12_showGroup_300 : decode cX12_showGroup 300 = .ok (.iload 7, 2) := by decide +kernel
theorem dX12_showGroup_302 : decode cX12_showGroup 302 = .ok (.bipush 12, 2) := by decide +kernel
theorem dX12_showGroup_304 : decode cX12_showGroup 304 = .ok (.iadd, 1) := by decide +kernel
theorem dX12_showGroup_305 : decode cX12_showGroup 305 = .ok (.iconst 2, 1) := by decide +kernel
theorem dX12_showGroup_306 : decode cX12_showGroup 306 = .ok (.iload_n 3, 1) := by decide +kernel
theorem dX12_showGroup_307 : decode cX12_showGroup 307 = .ok (.i2l, 1) := by decide +kernel
theorem dX12_showGroup_308 : decode cX12_showGroup 308 = .ok (.invokevirtual 157, 3) := by decide +kernel
theorem dX12_showGroup_311 : decode cX12_showGroup 311 = .ok (.aload_n 0, 1) := by decide +kernel
theorem dX12_showGroup_312 : decode cX12_showGroup 312 = .ok (.iload 7, 2) := by decide +kernel
theorem dX12_showGroup_314 : decode cX12_showGroup 314 = .ok (.bipush 14, 2) := by decide +kernel
theorem dX12_showGroup_316 : decode cX12_showGroup 316 = .ok (.iadd, 1) := by decide +kernel
theorem dX12_showGroup_317 : decode cX12_showGroup 317 = .ok (.iconst 2, 1) := by decide +kernel
theorem dX12_showGroup_318 : decode cX12_showGroup 318 = .ok (.iload 4, 2) := by decide +kernel
theorem dX12_showGroup_320 : decode cX12_showGroup 320 = .ok (.i2l, 1) := by decide +kernel
theorem dX12_showGroup_321 : decode cX12_showGroup 321 = .ok (.invokevirtual 157, 3) := by decide +kernel
theorem dX12_showGroup_324 : decode cX12_showGroup 324 = .ok (.aload_n 0, 1) := by decide +kernel
theorem dX12_showGroup_325 : decode cX12_showGroup 325 = .ok (.iload 7, 2) := by decide +kernel
theorem dX12_showGroup_327 : decode cX12_showGroup 327 = .ok (.bipush 16, 2) := by decide +kernel
theorem dX12_showGroup_329 : decode cX12_showGroup 329 = .ok (.iadd, 1) := by decide +kernel
theorem dX12_showGroup_330 : decode cX12_showGroup 330 = .ok (.iconst 2, 1) := by decide +kernel
theorem dX12_showGroup_331 : decode cX12_showGroup 331 = .ok (.iload 5, 2) := by decide +kernel
theorem dX12_showGroup_333 : decode cX12_showGroup 333 = .ok (.i2l, 1) := by decide +kernel
theorem dX12_showGroup_334 : decode cX12_showGroup 334 = .ok (.invokevirtual 157, 3) := by decide +kernel
theorem dX12_showGroup_337 : decode cX12_showGroup 337 = .ok (.iinc 6 1, 3) := by decide +kernel
theorem dX12_showGroup_340 : decode cX12_showGroup 340 = .ok (.goto (-119), 3) := by decide +kernel
theorem dX12_showGroup_343 : decode cX12_showGroup 343 = .ok (.sipush 1024, 3) := by decide +kernel
theorem dX12_showGroup_346 : decode cX12_showGroup 346 = .ok (.aload_n 0, 1) := by decide +kernel
theorem dX12_showGroup_347 : decode cX12_showGroup 347 = .ok (.iload_n 1, 1) := by decide +kernel
theorem dX12_showGroup_348 : decode cX12_showGroup 348 = .ok (.invokevirtual 84, 3) := by decide +kernel
theorem dX12_showGroup_351 : decode cX12_showGroup 351 = .ok (.imul, 1) := by decide +kernel
theorem dX12_showGroup_352 : decode cX12_showGroup 352 = .ok (.istore 6, 2) := by decide +kernel
theorem dX12_showGroup_354 : decode cX12_showGroup 354 = .ok (.aload_n 0, 1) := by decide +kernel
theorem dX12_showGroup_355 : decode cX12_showGroup 355 = .ok (.iload 6, 2) := by decide +kernel
theorem dX12_showGroup_357 : decode cX12_showGroup 357 = .ok (.iconst 4, 1) := by decide +kernel
theorem dX12_showGroup_358 : decode cX12_showGroup 358 = .ok (.aload_n 0, 1) := by decide +kernel
theorem dX12_showGroup_359 : decode cX12_showGroup 359 = .ok (.getfield 81, 3) := by decide +kernel
theorem dX12_showGroup_362 : decode cX12_showGroup 362 = .ok (.aload_n 0, 1) := by decide +kernel
theorem dX12_showGroup_363 : decode cX12_showGroup 363 = .ok (.getfield 91, 3) := by decide +kernel
theorem dX12_showGroup_366 : decode cX12_showGroup 366 = .ok (.imul, 1) := by decide +kernel
theorem dX12_showGroup_367 : decode cX12_showGroup 367 = .ok (.i2l, 1) := by decide +kernel
theorem dX12_showGroup_368 : decode cX12_showGroup 368 = .ok (.invokevirtual 157, 3) := by decide +kernel
theorem dX12_showGroup_371 : decode cX12_showGroup 371 = .ok (.aload_n 0, 1) := by decide +kernel
theorem dX12_showGroup_372 : decode cX12_showGroup 372 = .ok (.iload 6, 2) := by decide +kernel
theorem dX12_showGroup_374 : decode cX12_showGroup 374 = .ok (.iconst 4, 1) := by decide +kernel
theorem dX12_showGroup_375 : decode cX12_showGroup 375 = .ok (.iadd, 1) := by decide +kernel
theorem dX12_showGroup_376 : decode cX12_showGroup 376 = .ok (.iconst 4, 1) := by decide +kernel
theorem dX12_showGroup_377 : decode cX12_showGroup 377 = .ok (.aload_n 0, 1) := by decide +kernel
theorem dX12_showGroup_378 : decode cX12_showGroup 378 = .ok (.getfield 68, 3) := by decide +kernel
theorem dX12_showGroup_381 : decode cX12_showGroup 381 = .ok (.i2l, 1) := by decide +kernel
theorem dX12_showGroup_382 : decode cX12_showGroup 382 = .ok (.invokevirtual 157, 3) := by decide +kernel
theorem dX12_showGroup_385 : decode cX12_showGroup 385 = .ok (.aload_n 0, 1) := by decide +kernel
theorem dX12_showGroup_386 : decode cX12_showGroup 386 = .ok (.iload 6, 2) := by decide +kernel
theorem dX12_showGroup_388 : decode cX12_showGroup 388 = .ok (.bipush 12, 2) := by decide +kernel
theorem dX12_showGroup_390 : decode cX12_showGroup 390 = .ok (.iadd, 1) := by decide +kernel
theorem dX12_showGroup_391 : decode cX12_showGroup 391 = .ok (.iconst 4, 1) := by decide +kernel
theorem dX12_showGroup_392 : decode cX12_showGroup 392 = .ok (.aload_n 0, 1) := by decide +kernel
theorem dX12_showGroup_393 : decode cX12_showGroup 393 = .ok (.invokevirtual 140, 3) := by decide +kernel
theorem dX12_showGroup_396 : decode cX12_showGroup 396 = .ok (.i2l, 1) := by decide +kernel
theorem dX12_showGroup_397 : decode cX12_showGroup 397 = .ok (.invokevirtual 157, 3) := by decide +kernel
theorem dX12_showGroup_400 : decode cX12_showGroup 400 = .ok (.aload_n 0, 1) := by decide +kernel
theorem dX12_showGroup_401 : decode cX12_showGroup 401 = .ok (.iload 6, 2) := by decide +kernel
theorem dX12_showGroup_403 : decode cX12_showGroup 403 = .ok (.bipush 16, 2) := by decide +kernel
theorem dX12_showGroup_405 : decode cX12_showGroup 405 = .ok (.iadd, 1) := by decide +kernel
theorem dX12_showGroup_406 : decode cX12_showGroup 406 = .ok (.iconst 4, 1) := by decide +kernel
theorem dX12_showGroup_407 : decode cX12_showGroup 407 = .ok (.aload_n 0, 1) := by decide +kernel
theorem dX12_showGroup_408 : decode cX12_showGroup 408 = .ok (.invokevirtual 167, 3) := by decide +kernel
theorem dX12_showGroup_411 : decode cX12_showGroup 411 = .ok (.i2l, 1) := by decide +kernel
theorem dX12_showGroup_412 : decode cX12_showGroup 412 = .ok (.invokevirtual 157, 3) := by decide +kernel
theorem dX12_showGroup_415 : decode cX12_showGroup 415 = .ok (.aload_n 0, 1) := by decide +kernel
theorem dX12_showGroup_416 : decode cX12_showGroup 416 = .ok (.iload 6, 2) := by decide +kernel
theorem dX12_showGroup_418 : decode cX12_showGroup 418 = .ok (.bipush 20, 2) := by decide +kernel
theorem dX12_showGroup_420 : decode cX12_showGroup 420 = .ok (.iadd, 1) := by decide +kernel
theorem dX12_showGroup_421 : decode cX12_showGroup 421 = .ok (.iconst 4, 1) := by decide +kernel
theorem dX12_showGroup_422 : decode cX12_showGroup 422 = .ok (.lconst 1, 1) := by decide +kernel
theorem dX12_showGroup_423 : decode cX12_showGroup 423 = .ok (.invokevirtual 157, 3) := by decide +kernel
theorem dX12_showGroup_426 : decode cX12_showGroup 426 = .ok (.aload_n 0, 1) := by decide +kernel
theorem dX12_showGroup_427 : decode cX12_showGroup 427 = .ok (.iload 6, 2) := by decide +kernel
theorem dX12_showGroup_429 : decode cX12_showGroup 429 = .ok (.bipush 32, 2) := by decide +kernel
theorem dX12_showGroup_431 : decode cX12_showGroup 431 = .ok (.iadd, 1) := by decide +kernel
theorem dX12_showGroup_432 : decode cX12_showGroup 432 = .ok (.iconst 4, 1) := by decide +kernel
theorem dX12_showGroup_433 : decode cX12_showGroup 433 = .ok (.aload_n 0, 1) := by decide +kernel
theorem dX12_showGroup_434 : decode cX12_showGroup 434 = .ok (.getfield 78, 3) := by decide +kernel
theorem dX12_showGroup_437 : decode cX12_showGroup 437 = .ok (.i2l, 1) := by decide +kernel
theorem dX12_showGroup_438 : decode cX12_showGroup 438 = .ok (.invokevirtual 157, 3) := by decide +kernel
theorem dX12_showGroup_441 : decode cX12_showGroup 441 = .ok (.aload_n 0, 1) := by decide +kernel
theorem dX12_showGroup_442 : decode cX12_showGroup 442 = .ok (.iload 6, 2) := by decide +kernel
theorem dX12_showGroup_444 : decode cX12_showGroup 444 = .ok (.bipush 36, 2) := by decide +kernel
theorem dX12_showGroup_446 : decode cX12_showGroup 446 = .ok (.iadd, 1) := by decide +kernel
theorem dX12_showGroup_447 : decode cX12_showGroup 447 = .ok (.iconst 4, 1) := by decide +kernel
theorem dX12_showGroup_448 : decode cX12_showGroup 448 = .ok (.aload_n 0, 1) := by decide +kernel
theorem dX12_showGroup_449 : decode cX12_showGroup 449 = .ok (.getfield 78, 3) := by decide +kernel
theorem dX12_showGroup_452 : decode cX12_showGroup 452 = .ok (.i2l, 1) := by decide +kernel
theorem dX12_showGroup_453 : decode cX12_showGroup 453 = .ok (.invokevirtual 157, 3) := by decide +kernel
theorem dX12_showGroup_456 : decode cX12_showGroup 456 = .ok (.aload_n 0, 1) := by decide +kernel
theorem dX12_showGroup_457 : decode cX12_showGroup 457 = .ok (.iload 6, 2) := by decide +kernel
theorem dX12_showGroup_459 : decode cX12_showGroup 459 = .ok (.bipush 40, 2) := by decide +kernel
theorem dX12_showGroup_461 : decode cX12_showGroup 461 = .ok (.iadd, 1) := by decide +kernel
theorem dX12_showGroup_462 : decode cX12_showGroup 462 = .ok (.iconst 4, 1) := by decide +kernel
theorem dX12_showGroup_463 : decode cX12_showGroup 463 = .ok (.aload_n 0, 1) := by decide +kernel
theorem dX12_showGroup_464 : decode cX12_showGroup 464 = .ok (.getfield 91, 3) := by decide +kernel
theorem dX12_showGroup_467 : decode cX12_showGroup 467 = .ok (.i2l, 1) := by decide +kernel
theorem dX12_showGroup_468 : decode cX12_showGroup 468 = .ok (.invokevirtual 157, 3) := by decide +kernel
theorem dX12_showGroup_471 : decode cX12_showGroup 471 = .ok (.aload_n 0, 1) := by decide +kernel
theorem dX12_showGroup_472 : decode cX12_showGroup 472 = .ok (.iload 6, 2) := by decide +kernel
theorem dX12_showGroup_474 : decode cX12_showGroup 474 = .ok (.bipush 54, 2) := by decide +kernel
theorem dX12_showGroup_476 : decode cX12_showGroup 476 = .ok (.iadd, 1) := by decide +kernel
theorem dX12_showGroup_477 : decode cX12_showGroup 477 = .ok (.iconst 2, 1) := by decide +kernel
theorem dX12_showGroup_478 : decode cX12_showGroup 478 = .ok (.ldc2_w 170, 3) := by decide +kernel
theorem dX12_showGroup_481 : decode cX12_showGroup 481 = .ok (.invokevirtual 157, 3) := by decide +kernel
theorem dX12_showGroup_484 : decode cX12_showGroup 484 = .ok (.aload_n 0, 1) := by decide +kernel
theorem dX12_showGroup_485 : decode cX12_showGroup 485 = .ok (.iload 6, 2) := by decide +kernel
theorem dX12_showGroup_487 : decode cX12_showGroup 487 = .ok (.bipush 56, 2) := by decide +kernel
theorem dX12_showGroup_489 : decode cX12_showGroup 489 = .ok (.iadd, 1) := by decide +kernel
theorem dX12_showGroup_490 : decode cX12_showGroup 490 = .ok (.iconst 2, 1) := by decide +kernel
theorem dX12_showGroup_491 : decode cX12_showGroup 491 = .ok (.ldc2_w 172, 3) := by decide +kernel
theorem dX12_showGroup_494 : decode cX12_showGroup 494 = .ok (.invokevirtual 157, 3) := by decide +kernel
theorem dX12_showGroup_497 : decode cX12_showGroup 497 = .ok (.aload_n 0, 1) := by decide +kernel
theorem dX12_showGroup_498 : decode cX12_showGroup 498 = .ok (.iload 6, 2) := by decide +kernel
theorem dX12_showGroup_500 : decode cX12_showGroup 500 = .ok (.bipush 58, 2) := by decide +kernel
theorem dX12_showGroup_502 : decode cX12_showGroup 502 = .ok (.iadd, 1) := by decide +kernel
theorem dX12_showGroup_503 : decode cX12_showGroup 503 = .ok (.iconst 2, 1) := by decide +kernel
theorem dX12_showGroup_504 : decode cX12_showGroup 504 = .ok (.lconst 1, 1) := by decide +kernel
theorem dX12_showGroup_505 : decode cX12_showGroup 505 = .ok (.invokevirtual 157, 3) := by decide +kernel
theorem dX12_showGroup_508 : decode cX12_showGroup 508 = .ok (.aload_n 0, 1) := by decide +kernel
theorem dX12_showGroup_509 : decode cX12_showGroup 509 = .ok (.iload 6, 2) := by decide +kernel
theorem dX12_showGroup_511 : decode cX12_showGroup 511 = .ok (.bipush 60, 2) := by decide +kernel
theorem dX12_showGroup_513 : decode cX12_showGroup 513 = .ok (.iadd, 1) := by decide +kernel
theorem dX12_showGroup_514 : decode cX12_showGroup 514 = .ok (.iconst 2, 1) := by decide +kernel
theorem dX12_showGroup_515 : decode cX12_showGroup 515 = .ok (.lconst 1, 1) := by decide +kernel
theorem dX12_showGroup_516 : decode cX12_showGroup 516 = .ok (.invokevirtual 157, 3) := by decide +kernel
theorem dX12_showGroup_519 : decode cX12_showGroup 519 = .ok (.aload_n 0, 1) := by decide +kernel
theorem dX12_showGroup_520 : decode cX12_showGroup 520 = .ok (.iload 6, 2) := by decide +kernel
theorem dX12_showGroup_522 : decode cX12_showGroup 522 = .ok (.bipush 76, 2) := by decide +kernel
theorem dX12_showGroup_524 : decode cX12_showGroup 524 = .ok (.iadd, 1) := by decide +kernel
theorem dX12_showGroup_525 : decode cX12_showGroup 525 = .ok (.iconst 4, 1) := by decide +kernel
theorem dX12_showGroup_526 : decode cX12_showGroup 526 = .ok (.lconst 1, 1) := by decide +kernel
theorem dX12_showGroup_527 : decode cX12_showGroup 527 = .ok (.invokevirtual 157, 3) := by decide +kernel
theorem dX12_showGroup_530 : decode cX12_showGroup 530 = .ok (.aload_n 0, 1) := by decide +kernel
theorem dX12_showGroup_531 : decode cX12_showGroup 531 = .ok (.iload 6, 2) := by decide +kernel
theorem dX12_showGroup_533 : decode cX12_showGroup 533 = .ok (.bipush 84, 2) := by decide +kernel
theorem dX12_showGroup_535 : decode cX12_showGroup 535 = .ok (.iadd, 1) := by decide +kernel
theorem dX12_showGroup_536 : decode cX12_showGroup 536 = .ok (.iconst 4, 1) := by decide +kernel
theorem dX12_showGroup_537 : decode cX12_showGroup 537 = .ok (.ldc2_w 174, 3) := by decide +kernel
theorem dX12_showGroup_540 : decode cX12_showGroup 540 = .ok (.invokevirtual 157, 3) := by decide +kernel
theorem dX12_showGroup_543 : decode cX12_showGroup 543 = .ok (.aload_n 0, 1) := by decide +kernel
theorem dX12_showGroup_544 : decode cX12_showGroup 544 = .ok (.iload 6, 2) := by decide +kernel
theorem dX12_showGroup_546 : decode cX12_showGroup 546 = .ok (.bipush 88, 2) := by decide +kernel
theorem dX12_showGroup_548 : decode cX12_showGroup 548 = .ok (.iadd, 1) := by decide +kernel
theorem dX12_showGroup_549 : decode cX12_showGroup 549 = .ok (.iconst 2, 1) := by decide +kernel
theorem dX12_showGroup_550 : decode cX12_showGroup 550 = .ok (.ldc2_w 176, 3) := by decide +kernel
theorem dX12_showGroup_553 : decode cX12_showGroup 553 = .ok (.invokevirtual 157, 3) := by decide +kernel
theorem dX12_showGroup_556 : decode cX12_showGroup 556 = .ok (.aload_n 0, 1) := by decide +kernel
theorem dX12_showGroup_557 : decode cX12_showGroup 557 = .ok (.iload 6, 2) := by decide +kernel
theorem dX12_showGroup_559 : decode cX12_showGroup 559 = .ok (.bipush 90, 2) := by decide +kernel
theorem dX12_showGroup_561 : decode cX12_showGroup 561 = .ok (.iadd, 1) := by decide +kernel
theorem dX12_showGroup_562 : decode cX12_showGroup 562 = .ok (.iconst 2, 1) := by decide +kernel
theorem dX12_showGroup_563 : decode cX12_showGroup 563 = .ok (.iload_n 1, 1) := by decide +kernel
theorem dX12_showGroup_564 : decode cX12_showGroup 564 = .ok (.i2l, 1) := by decide +kernel
theorem dX12_showGroup_565 : decode cX12_showGroup 565 = .ok (.invokevirtual 157, 3) := by decide +kernel
theorem dX12_showGroup_568 : decode cX12_showGroup 568 = .ok (.aload_n 0, 1) := by decide +kernel
theorem dX12_showGroup_569 : decode cX12_showGroup 569 = .ok (.iload 6, 2) := by decide +kernel
theorem dX12_showGroup_571 : decode cX12_showGroup 571 = .ok (.bipush 96, 2) := by decide +kernel
theorem dX12_showGroup_573 : decode cX12_showGroup 573 = .ok (.iadd, 1) := by decide +kernel
theorem dX12_showGroup_574 : decode cX12_showGroup 574 = .ok (.iconst 4, 1) := by decide +kernel
theorem dX12_showGroup_575 : decode cX12_showGroup 575 = .ok (.ldc2_w 178, 3) := by decide +kernel
theorem dX12_showGroup_578 : decode cX12_showGroup 578 = .ok (.invokevirtual 157, 3) := by decide +kernel
theorem dX12_showGroup_581 : decode cX12_showGroup 581 = .ok (.aload_n 0, 1) := by decide +kernel
theorem dX12_showGroup_582 : decode cX12_showGroup 582 = .ok (.iload 6, 2) := by decide +kernel
theorem dX12_showGroup_584 : decode cX12_showGroup 584 = .ok (.bipush 104, 2) := by decide +kernel
theorem dX12_showGroup_586 : decode cX12_showGroup 586 = .ok (.iadd, 1) := by decide +kernel
theorem dX12_showGroup_587 : decode cX12_showGroup 587 = .ok (.iconst 4, 1) := by decide +kernel
theorem dX12_showGroup_588 : decode cX12_showGroup 588 = .ok (.aload_n 0, 1) := by decide +kernel
theorem dX12_showGroup_589 : decode cX12_showGroup 589 = .ok (.getfield 116, 3) := by decide +kernel
theorem dX12_showGroup_592 : decode cX12_showGroup 592 = .ok (.i2l, 1) := by decide +kernel
theorem dX12_showGroup_593 : decode cX12_showGroup 593 = .ok (.invokevirtual 157, 3) := by decide +kernel
theorem dX12_showGroup_596 : decode cX12_showGroup 596 = .ok (.return_, 1) := by decide +kernel
theorem dX12_begin_0 : decode cX12_begin 0 = .ok (.iconst 1, 1) := by decide +kernel
theorem dX12_begin_1 : decode cX12_begin 1 = .ok (.iload_n 1, 1) := by decide +kernel
theorem dX12_begin_2 : decode cX12_begin 2 = .ok (.aload_n 0, 1) := by decide +kernel
theorem dX12_begin_3 : decode cX12_begin 3 = .ok (.getfield 78, 3) := by decide +kernel
theorem dX12_begin_6 : decode cX12_begin 6 = .ok (.imul, 1) := by decide +kernel
theorem dX12_begin_7 : decode cX12_begin 7 = .ok (.iadd, 1) := by decide +kernel
theorem dX12_begin_8 : decode cX12_begin 8 = .ok (.ireturn, 1) := by decide +kernel
theorem dX12_room_0 : decode cX12_room 0 = .ok (.iload_n 1, 1) := by decide +kernel
theorem dX12_room_1 : decode cX12_room 1 = .ok (.aload_n 0, 1) := by decide +kernel
theorem dX12_room_2 : decode cX12_room 2 = .ok (.getfield 81, 3) := by decide +kernel
theorem dX12_room_5 : decode cX12_room 5 = .ok (.iconst 1, 1) := by decide +kernel
theorem dX12_room_6 : decode cX12_room 6 = .ok (.isub, 1) := by decide +kernel
theorem dX12_room_7 : decode cX12_room 7 = .ok (.if_icmp .ge 10, 3) := by decide +kernel
theorem dX12_room_10 : decode cX12_room 10 = .ok (.aload_n 0, 1) := by decide +kernel
theorem dX12_room_11 : decode cX12_room 11 = .ok (.getfield 78, 3) := by decide +kernel
theorem dX12_room_14 : decode cX12_room 14 = .ok (.goto 13, 3) := by decide +kernel
theorem dX12_room_17 : decode cX12_room 17 = .ok (.aload_n 0, 1) := by decide +kernel
theorem dX12_room_18 : decode cX12_room 18 = .ok (.getfield 68, 3) := by decide +kernel
theorem dX12_room_21 : decode cX12_room 21 = .ok (.aload_n 0, 1) := by decide +kernel
theorem dX12_room_22 : decode cX12_room 22 = .ok (.iload_n 1, 1) := by decide +kernel
theorem dX12_room_23 : decode cX12_room 23 = .ok (.invokevirtual 84, 3) := by decide +kernel
theorem dX12_room_26 : decode cX12_room 26 = .ok (.isub, 1) := by decide +kernel
theorem dX12_room_27 : decode cX12_room 27 = .ok (.ireturn, 1) := by decide +kernel
theorem dX12_put_0 : decode cX12_put 0 = .ok (.iconst 0, 1) := by decide +kernel
theorem dX12_put_1 : decode cX12_put 1 = .ok (.istore 5, 2) := by decide +kernel
theorem dX12_put_3 : decode cX12_put 3 = .ok (.iload 5, 2) := by decide +kernel
theorem dX12_put_5 : decode cX12_put 5 = .ok (.iload_n 2, 1) := by decide +kernel
theorem dX12_put_6 : decode cX12_put 6 = .ok (.if_icmp .ge 27, 3) := by decide +kernel
theorem dX12_put_9 : decode cX12_put 9 = .ok (.aload_n 0, 1) := by decide +kernel
theorem dX12_put_10 : decode cX12_put 10 = .ok (.getfield 14, 3) := by decide +kernel
theorem dX12_put_13 : decode cX12_put 13 = .ok (.iload_n 1, 1) := by decide +kernel
theorem dX12_put_14 : decode cX12_put 14 = .ok (.iload 5, 2) := by decide +kernel
theorem dX12_put_16 : decode cX12_put 16 = .ok (.iadd, 1) := by decide +kernel
theorem dX12_put_17 : decode cX12_put 17 = .ok (.lload_n 3, 1) := by decide +kernel
theorem dX12_put_18 : decode cX12_put 18 = .ok (.bipush 8, 2) := by decide +kernel
theorem dX12_put_20 : decode cX12_put 20 = .ok (.iload 5, 2) := by decide +kernel
theorem dX12_put_22 : decode cX12_put 22 = .ok (.imul, 1) := by decide +kernel
theorem dX12_put_23 : decode cX12_put 23 = .ok (.lshr, 1) := by decide +kernel
theorem dX12_put_24 : decode cX12_put 24 = .ok (.l2i, 1) := by decide +kernel
theorem dX12_put_25 : decode cX12_put 25 = .ok (.i2b, 1) := by decide +kernel
theorem dX12_put_26 : decode cX12_put 26 = .ok (.bastore, 1) := by decide +kernel
theorem dX12_put_27 : decode cX12_put 27 = .ok (.iinc 5 1, 3) := by decide +kernel
theorem dX12_put_30 : decode cX12_put 30 = .ok (.goto (-27), 3) := by decide +kernel
theorem dX12_put_33 : decode cX12_put 33 = .ok (.return_, 1) := by decide +kernel
theorem dX12_freeInodes_0 : decode cX12_freeInodes 0 = .ok (.iconst 0, 1) := by decide +kernel
theorem dX12_freeInodes_1 : decode cX12_freeInodes 1 = .ok (.istore_n 1, 1) := by decide +kernel
theorem dX12_freeInodes_2 : decode cX12_freeInodes 2 = .ok (.iconst 1, 1) := by decide +kernel
theorem dX12_freeInodes_3 : decode cX12_freeInodes 3 = .ok (.istore_n 2, 1) := by decide +kernel
theorem dX12_freeInodes_4 : decode cX12_freeInodes 4 = .ok (.iload_n 2, 1) := by decide +kernel
theorem dX12_freeInodes_5 : decode cX12_freeInodes 5 = .ok (.aload_n 0, 1) := by decide +kernel
theorem dX12_freeInodes_6 : decode cX12_freeInodes 6 = .ok (.getfield 81, 3) := by decide +kernel
theorem dX12_freeInodes_9 : decode cX12_freeInodes 9 = .ok (.aload_n 0, 1) := by decide +kernel
theorem dX12_freeInodes_10 : decode cX12_freeInodes 10 = .ok (.getfield 91, 3) := by decide +kernel
theorem dX12_freeInodes_13 : decode cX12_freeInodes 13 = .ok (.imul, 1) := by decide +kernel
theorem dX12_freeInodes_14 : decode cX12_freeInodes 14 = .ok (.if_icmp .gt 26, 3) := by decide +kernel
theorem dX12_freeInodes_17 : decode cX12_freeInodes 17 = .ok (.iload_n 1, 1) := by decide +kernel
theorem dX12_freeInodes_18 : decode cX12_freeInodes 18 = .ok (.aload_n 0, 1) := by decide +kernel
theorem dX12_freeInodes_19 : decode cX12_freeInodes 19 = .ok (.getfield 31, 3) := by decide +kernel
theorem dX12_freeInodes_22 : decode cX12_freeInodes 22 = .ok (.iload_n 2, 1) := by decide +kernel
theorem dX12_freeInodes_23 : decode cX12_freeInodes 23 = .ok (.iaload, 1) := by decide +kernel
theorem dX12_freeInodes_24 : decode cX12_freeInodes 24 = .ok (.ifCond .ne 7, 3) := by decide +kernel
theorem dX12_freeInodes_27 : decode cX12_freeInodes 27 = .ok (.iconst 1, 1) := by decide +kernel
theorem dX12_freeInodes_28 : decode cX12_freeInodes 28 = .ok (.goto 4, 3) := by decide +kernel
theorem dX12_freeInodes_31 : decode cX12_freeInodes 31 = .ok (.iconst 0, 1) := by decide +kernel
theorem dX12_freeInodes_32 : decode cX12_freeInodes 32 = .ok (.iadd, 1) := by decide +kernel
theorem dX12_freeInodes_33 : decode cX12_freeInodes 33 = .ok (.istore_n 1, 1) := by decide +kernel
theorem dX12_freeInodes_34 : decode cX12_freeInodes 34 = .ok (.iinc 2 1, 3) := by decide +kernel
theorem dX12_freeInodes_37 : decode cX12_freeInodes 37 = .ok (.goto (-33), 3) := by decide +kernel
theorem dX12_freeInodes_40 : decode cX12_freeInodes 40 = .ok (.iload_n 1, 1) := by decide +kernel
theorem dX12_freeInodes_41 : decode cX12_freeInodes 41 = .ok (.ireturn, 1) := by decide +kernel
theorem dX12_showInode_0 : decode cX12_showInode 0 = .ok (.aload_n 0, 1) := by decide +kernel
theorem dX12_showInode_1 : decode cX12_showInode 1 = .ok (.iload_n 1, 1) := by decide +kernel
theorem dX12_showInode_2 : decode cX12_showInode 2 = .ok (.invokevirtual 150, 3) := by decide +kernel
theorem dX12_showInode_5 : decode cX12_showInode 5 = .ok (.istore_n 2, 1) := by decide +kernel
theorem dX12_showInode_6 : decode cX12_showInode 6 = .ok (.aload_n 0, 1) := by decide +kernel
theorem dX12_showInode_7 : decode cX12_showInode 7 = .ok (.iload_n 2, 1) := by decide +kernel
theorem dX12_showInode_8 : decode cX12_showInode 8 = .ok (.iconst 2, 1) := by decide +kernel
theorem dX12_showInode_9 : decode cX12_showInode 9 = .ok (.aload_n 0, 1) := by decide +kernel
theorem dX12_showInode_10 : decode cX12_showInode 10 = .ok (.getfield 31, 3) := by decide +kernel
theorem dX12_showInode_13 : decode cX12_showInode 13 = .ok (.iload_n 1, 1) := by decide +kernel
theorem dX12_showInode_14 : decode cX12_showInode 14 = .ok (.iaload, 1) := by decide +kernel
theorem dX12_showInode_15 : decode cX12_showInode 15 = .ok (.iconst 2, 1) := by decide +kernel
theorem dX12_showInode_16 : decode cX12_showInode 16 = .ok (.if_icmp .ne 9, 3) := by decide +kernel
theorem dX12_showInode_19 : decode cX12_showInode 19 = .ok (.ldc2_w 153, 3) := by decide +kernel
theorem dX12_showInode_22 : decode cX12_showInode 22 = .ok (.goto 6, 3) := by decide +kernel
theorem dX12_showInode_25 : decode cX12_showInode 25 = .ok (.ldc2_w 155, 3) := by decide +kernel
theorem dX12_showInode_28 : decode cX12_showInode 28 = .ok (.invokevirtual 157, 3) := by decide +kernel
theorem dX12_showInode_31 : decode cX12_showInode 31 = .ok (.aload_n 0, 1) := by decide +kernel
theorem dX12_showInode_32 : decode cX12_showInode 32 = .ok (.iload_n 2, 1) := by decide +kernel
theorem dX12_showInode_33 : decode cX12_showInode 33 = .ok (.iconst 4, 1) := by decide +kernel
theorem dX12_showInode_34 : decode cX12_showInode 34 = .ok (.iadd, 1) := by decide +kernel
theorem dX12_showInode_35 : decode cX12_showInode 35 = .ok (.iconst 4, 1) := by decide +kernel
theorem dX12_showInode_36 : decode cX12_showInode 36 = .ok (.aload_n 0, 1) := by decide +kernel
theorem dX12_showInode_37 : decode cX12_showInode 37 = .ok (.getfield 34, 3) := by decide +kernel
theorem dX12_showInode_40 : decode cX12_showInode 40 = .ok (.iload_n 1, 1) := by decide +kernel
theorem dX12_showInode_41 : decode cX12_showInode 41 = .ok (.iaload, 1) := by decide +kernel
theorem dX12_showInode_42 : decode cX12_showInode 42 = .ok (.i2l, 1) := by decide +kernel
theorem dX12_showInode_43 : decode cX12_showInode 43 = .ok (.invokevirtual 157, 3) := by decide +kernel
theorem dX12_showInode_46 : decode cX12_showInode 46 = .ok (.iconst 0, 1) := by decide +kernel
theorem dX12_showInode_47 : decode cX12_showInode 47 = .ok (.istore_n 3, 1) := by decide +kernel
theorem dX12_showInode_48 : decode cX12_showInode 48 = .ok (.iload_n 3, 1) := by decide +kernel
theorem dX12_showInode_49 : decode cX12_showInode 49 = .ok (.iconst 3, 1) := by decide +kernel
theorem dX12_showInode_50 : decode cX12_showInode 50 = .ok (.if_icmp .ge 32, 3) := by decide +kernel
theorem dX12_showInode_53 : decode cX12_showInode 53 = .ok (.aload_n 0, 1) := by decide +kernel
theorem dX12_showInode_54 : decode cX12_showInode 54 = .ok (.iload_n 2, 1) := by decide +kernel
theorem dX12_showInode_55 : decode cX12_showInode 55 = .ok (.bipush 8, 2) := by decide +kernel
theorem dX12_showInode_57 : decode cX12_showInode 57 = .ok (.iadd, 1) := by decide +kernel
theorem dX12_showInode_58 : decode cX12_showInode 58 = .ok (.iconst 4, 1) := by decide +kernel
theorem dX12_showInode_59 : decode cX12_showInode 59 = .ok (.iload_n 3, 1) := by decide +kernel
theorem dX12_showInode_60 : decode cX12_showInode 60 = .ok (.imul, 1) := by decide +kernel
theorem dX12_showInode_61 : decode cX12_showInode 61 = .ok (.iadd, 1) := by decide +kernel
theorem dX12_showInode_62 : decode cX12_showInode 62 = .ok (.iconst 4, 1) := by decide +kernel
theorem dX12_showInode_63 : decode cX12_showInode 63 = .ok (.aload_n 0, 1) := by decide +kernel
theorem dX12_showInode_64 : decode cX12_showInode 64 = .ok (.getfield 61, 3) := by decide +kernel
theorem dX12_showInode_67 : decode cX12_showInode 67 = .ok (.iconst 3, 1) := by decide +kernel
theorem dX12_showInode_68 : decode cX12_showInode 68 = .ok (.iload_n 1, 1) := by decide +kernel
theorem dX12_showInode_69 : decode cX12_showInode 69 = .ok (.imul, 1) := by decide +kernel
theorem dX12_showInode_70 : decode cX12_showInode 70 = .ok (.iload_n 3, 1) := by decide +kernel
theorem dX12_showInode_71 : decode cX12_showInode 71 = .ok (.iadd, 1) := by decide +kernel
theorem dX12_showInode_72 : decode cX12_showInode 72 = .ok (.laload, 1) := by decide +kernel
theorem dX12_showInode_73 : decode cX12_showInode 73 = .ok (.invokevirtual 157, 3) := by decide +kernel
theorem dX12_showInode_76 : decode cX12_showInode 76 = .ok (.iinc 3 1, 3) := by decide +kernel
theorem dX12_showInode_79 : decode cX12_showInode 79 = .ok (.goto (-31), 3) := by decide +kernel
theorem dX12_showInode_82 : decode cX12_showInode 82 = .ok (.aload_n 0, 1) := by decide +kernel
theorem dX12_showInode_83 : decode cX12_showInode 83 = .ok (.iload_n 2, 1) := by decide +kernel
theorem dX12_showInode_84 : decode cX12_showInode 84 = .ok (.bipush 26, 2) := by decide +kernel
theorem dX12_showInode_86 : decode cX12_showInode 86 = .ok (.iadd, 1) := by decide +kernel
theorem dX12_showInode_87 : decode cX12_showInode 87 = .ok (.iconst 2, 1) := by decide +kernel
theorem dX12_showInode_88 : decode cX12_showInode 88 = .ok (.aload_n 0, 1) := by decide +kernel
theorem dX12_showInode_89 : decode cX12_showInode 89 = .ok (.getfield 37, 3) := by decide +kernel
theorem dX12_showInode_92 : decode cX12_showInode 92 = .ok (.iload_n 1, 1) := by decide +kernel
theorem dX12_showInode_93 : decode cX12_showInode 93 = .ok (.iaload, 1) := by decide +kernel
theorem dX12_showInode_94 : decode cX12_showInode 94 = .ok (.i2l, 1) := by decide +kernel
theorem dX12_showInode_95 : decode cX12_showInode 95 = .ok (.invokevirtual 157, 3) := by decide +kernel
theorem dX12_showInode_98 : decode cX12_showInode 98 = .ok (.aload_n 0, 1) := by decide +kernel
theorem dX12_showInode_99 : decode cX12_showInode 99 = .ok (.iload_n 2, 1) := by decide +kernel
theorem dX12_showInode_100 : decode cX12_showInode 100 = .ok (.bipush 28, 2) := by decide +kernel
theorem dX12_showInode_102 : decode cX12_showInode 102 = .ok (.iadd, 1) := by decide +kernel
theorem dX12_showInode_103 : decode cX12_showInode 103 = .ok (.iconst 4, 1) := by decide +kernel
theorem dX12_showInode_104 : decode cX12_showInode 104 = .ok (.iconst 2, 1) := by decide +kernel
theorem dX12_showInode_105 : decode cX12_showInode 105 = .ok (.aload_n 0, 1) := by decide +kernel
theorem dX12_showInode_106 : decode cX12_showInode 106 = .ok (.getfield 40, 3) := by decide +kernel
theorem dX12_showInode_109 : decode cX12_showInode 109 = .ok (.iload_n 1, 1) := by decide +kernel
theorem dX12_showInode_110 : decode cX12_showInode 110 = .ok (.iaload, 1) := by decide +kernel
theorem dX12_showInode_111 : decode cX12_showInode 111 = .ok (.invokestatic 161, 3) := by decide +kernel
theorem dX12_showInode_114 : decode cX12_showInode 114 = .ok (.imul, 1) := by decide +kernel
theorem dX12_showInode_115 : decode cX12_showInode 115 = .ok (.i2l, 1) := by decide +kernel
theorem dX12_showInode_116 : decode cX12_showInode 116 = .ok (.invokevirtual 157, 3) := by decide +kernel
theorem dX12_showInode_119 : decode cX12_showInode 119 = .ok (.aload_n 0, 1) := by decide +kernel
theorem dX12_showInode_120 : decode cX12_showInode 120 = .ok (.iload_n 2, 1) := by decide +kernel
theorem dX12_showInode_121 : decode cX12_showInode 121 = .ok (.bipush 88, 2) := by decide +kernel
theorem dX12_showInode_123 : decode cX12_showInode 123 = .ok (.iadd, 1) := by decide +kernel
theorem dX12_showInode_124 : decode cX12_showInode 124 = .ok (.iconst 4, 1) := by decide +kernel
theorem dX12_showInode_125 : decode cX12_showInode 125 = .ok (.aload_n 0, 1) := by decide +kernel
theorem dX12_showInode_126 : decode cX12_showInode 126 = .ok (.getfield 49, 3) := by decide +kernel
theorem dX12_showInode_129 : decode cX12_showInode 129 = .ok (.iload_n 1, 1) := by decide +kernel
theorem dX12_showInode_130 : decode cX12_showInode 130 = .ok (.iaload, 1) := by decide +kernel
theorem dX12_showInode_131 : decode cX12_showInode 131 = .ok (.i2l, 1) := by decide +kernel
theorem dX12_showInode_132 : decode cX12_showInode 132 = .ok (.invokevirtual 157, 3) := by decide +kernel
theorem dX12_showInode_135 : decode cX12_showInode 135 = .ok (.aload_n 0, 1) := by decide +kernel
theorem dX12_showInode_136 : decode cX12_showInode 136 = .ok (.iload_n 2, 1) := by decide +kernel
theorem dX12_showInode_137 : decode cX12_showInode 137 = .ok (.bipush 92, 2) := by decide +kernel
theorem dX12_showInode_139 : decode cX12_showInode 139 = .ok (.iadd, 1) := by decide +kernel
theorem dX12_showInode_140 : decode cX12_showInode 140 = .ok (.iconst 4, 1) := by decide +kernel
theorem dX12_showInode_141 : decode cX12_showInode 141 = .ok (.aload_n 0, 1) := by decide +kernel
theorem dX12_showInode_142 : decode cX12_showInode 142 = .ok (.getfield 52, 3) := by decide +kernel
theorem dX12_showInode_145 : decode cX12_showInode 145 = .ok (.iload_n 1, 1) := by decide +kernel
theorem dX12_showInode_146 : decode cX12_showInode 146 = .ok (.iaload, 1) := by decide +kernel
theorem dX12_showInode_147 : decode cX12_showInode 147 = .ok (.i2l, 1) := by decide +kernel
theorem dX12_showInode_148 : decode cX12_showInode 148 = .ok (.invokevirtual 157, 3) := by decide +kernel
theorem dX12_showInode_151 : decode cX12_showInode 151 = .ok (.aload_n 0, 1) := by decide +kernel
theorem dX12_showInode_152 : decode cX12_showInode 152 = .ok (.getfield 55, 3) := by decide +kernel
theorem dX12_showInode_155 : decode cX12_showInode 155 = .ok (.iload_n 1, 1) := by decide +kernel
theorem dX12_showInode_156 : decode cX12_showInode 156 = .ok (.iaload, 1) := by decide +kernel
theorem dX12_showInode_157 : decode cX12_showInode 157 = .ok (.istore_n 3, 1) := by decide +kernel
theorem dX12_showInode_158 : decode cX12_showInode 158 = .ok (.aload_n 0, 1) := by decide +kernel
theorem dX12_showInode_159 : decode cX12_showInode 159 = .ok (.getfield 43, 3) := by decide +kernel
theorem dX12_showInode_162 : decode cX12_showInode 162 = .ok (.iload_n 1, 1) := by decide +kernel
theorem dX12_showInode_163 : decode cX12_showInode 163 = .ok (.iaload, 1) := by decide +kernel
theorem dX12_showInode_164 : decode cX12_showInode 164 = .ok (.istore 4, 2) := by decide +kernel
theorem dX12_showInode_166 : decode cX12_showInode 166 = .ok (.iconst 0, 1) := by decide +kernel
theorem dX12_showInode_167 : decode cX12_showInode 167 = .ok (.istore 5, 2) := by decide +kernel
theorem dX12_showInode_169 : decode cX12_showInode 169 = .ok (.iload 5, 2) := by decide +kernel
theorem dX12_showInode_171 : decode cX12_showInode 171 = .ok (.aload_n 0, 1) := by decide +kernel
theorem dX12_showInode_172 : decode cX12_showInode 172 = .ok (.getfield 40, 3) := by decide +kernel
theorem dX12_showInode_175 : decode cX12_showInode 175 = .ok (.iload_n 1, 1) := by decide +kernel
theorem dX12_showInode_176 : decode cX12_showInode 176 = .ok (.iaload, 1) := by decide +kernel
theorem dX12_showInode_177 : decode cX12_showInode 177 = .ok (.if_icmp .ge 220, 3) := by decide +kernel
theorem dX12_showInode_180 : decode cX12_showInode 180 = .ok (.iload 5, 2) := by decide +kernel
theorem dX12_showInode_182 : decode cX12_showInode 182 = .ok (.bipush 12, 2) := by decide +kernel
theorem dX12_showInode_184 : decode cX12_showInode 184 = .ok (.if_icmp .ge 23, 3) := by decide +kernel
theorem dX12_showInode_187 : decode cX12_showInode 187 = .ok (.aload_n 0, 1) := by decide +kernel
theorem dX12_showInode_188 : decode cX12_showInode 188 = .ok (.iload_n 2, 1) := by decide +kernel
theorem dX12_showInode_189 : decode cX12_showInode 189 = .ok (.bipush 40, 2) := by decide +kernel
theorem dX12_showInode_191 : decode cX12_showInode 191 = .ok (.iadd, 1) := by decide +kernel
theorem dX12_showInode_192 : decode cX12_showInode 192 = .ok (.iconst 4, 1) := by decide +kernel
theorem dX12_showInode_193 : decode cX12_showInode 193 = .ok (.iload 5, 2) := by decide +kernel
theorem dX12_showInode_195 : decode cX12_showInode 195 = .ok (.imul, 1) := by decide +kernel
theorem dX12_showInode_196 : decode cX12_showInode 196 = .ok (.iadd, 1) := by decide +kernel
theorem dX12_showInode_197 : decode cX12_showInode 197 = .ok (.iconst 4, 1) := by decide +kernel
theorem dX12_showInode_198 : decode cX12_showInode 198 = .ok (.iload 4, 2) := by decide +kernel
theorem dX12_showInode_200 : decode cX12_showInode 200 = .ok (.i2l, 1) := by decide +kernel
theorem dX12_showInode_201 : decode cX12_showInode 201 = .ok (.invokevirtual 157, 3) := by decide +kernel
theorem dX12_showInode_204 : decode cX12_showInode 204 = .ok (.goto 133, 3) := by decide +kernel
theorem dX12_showInode_207 : decode cX12_showInode 207 = .ok (.iload 5, 2) := by decide +kernel
theorem dX12_showInode_209 : decode cX12_showInode 209 = .ok (.sipush 268, 3) := by decide +kernel
theorem dX12_showInode_212 : decode cX12_showInode 212 = .ok (.if_icmp .ge 32, 3) := by decide +kernel
theorem dX12_showInode_215 : decode cX12_showInode 215 = .ok (.aload_n 0, 1) := by decide +kernel
theorem dX12_showInode_216 : decode cX12_showInode 216 = .ok (.sipush 1024, 3) := by decide +kernel
theorem dX12_showInode_219 : decode cX12_showInode 219 = .ok (.aload_n 0, 1) := by decide +kernel
theorem dX12_showInode_220 : decode cX12_showInode 220 = .ok (.getfield 49, 3) := by decide +kernel
theorem dX12_showInode_223 : decode cX12_showInode 223 = .ok (.iload_n 1, 1) := by decide +kernel
theorem dX12_showInode_224 : decode cX12_showInode 224 = .ok (.iaload, 1) := by decide +kernel
theorem dX12_showInode_225 : decode cX12_showInode 225 = .ok (.imul, 1) := by decide +kernel
theorem dX12_showInode_226 : decode cX12_showInode 226 = .ok (.iconst 4, 1) := by decide +kernel
theorem dX12_showInode_227 : decode cX12_showInode 227 = .ok (.iload 5, 2) := by decide +kernel
theorem dX12_showInode_229 : decode cX12_showInode 229 = .ok (.bipush 12, 2) := by decide +kernel
theorem dX12_showInode_231 : decode cX12_showInode 231 = .ok (.isub, 1) := by decide +kernel
theorem dX12_showInode_232 : decode cX12_showInode 232 = .ok (.imul, 1) := by decide +kernel
theorem dX12_showInode_233 : decode cX12_showInode 233 = .ok (.iadd, 1) := by decide +kernel
theorem dX12_showInode_234 : decode cX12_showInode 234 = .ok (.iconst 4, 1) := by decide +kernel
theorem dX12_showInode_235 : decode cX12_showInode 235 = .ok (.iload 4, 2) := by decide +kernel
theorem dX12_showInode_237 : decode cX12_showInode 237 = .ok (.i2l, 1) := by decide +kernel
theorem dX12_showInode_238 : decode cX12_showInode 238 = .ok (.invokevirtual 157, 3) := by decide +kernel
theorem dX12_showInode_241 : decode cX12_showInode 241 = .ok (.goto 96, 3) := by decide +kernel
theorem dX12_showInode_244 : decode cX12_showInode 244 = .ok (.iload 5, 2) := by decide +kernel
theorem dX12_showInode_246 : decode cX12_showInode 246 = .ok (.sipush 268, 3) := by decide +kernel
theorem dX12_showInode_249 : decode cX12_showInode 249 = .ok (.isub, 1) := by decide +kernel
theorem dX12_showInode_250 : decode cX12_showInode 250 = .ok (.sipush 256, 3) := by decide +kernel
theorem dX12_showInode_253 : decode cX12_showInode 253 = .ok (.irem, 1) := by decide +kernel
theorem dX12_showInode_254 : decode cX12_showInode 254 = .ok (.ifCond .ne 57, 3) := by decide +kernel
theorem dX12_showInode_257 : decode cX12_showInode 257 = .ok (.iload 5, 2) := by decide +kernel
theorem dX12_showInode_259 : decode cX12_showInode 259 = .ok (.sipush 268, 3) := by decide +kernel
theorem dX12_showInode_262 : decode cX12_showInode 262 = .ok (.if_icmp .ne 12, 3) := by decide +kernel
theorem dX12_showInode_265 : decode cX12_showInode 265 = .ok (.aload_n 0, 1) := by decide +kernel
theorem dX12_showInode_266 : decode cX12_showInode 266 = .ok (.getfield 55, 3) := by decide +kernel
theorem dX12_showInode_269 : decode cX12_showInode 269 = .ok (.iload_n 1, 1) := by decide +kernel
theorem dX12_showInode_270 : decode cX12_showInode 270 = .ok (.iaload, 1) := by decide +kernel
theorem dX12_showInode_271 : decode cX12_showInode 271 = .ok (.goto 9, 3) := by decide +kernel
theorem dX12_showInode_274 : decode cX12_showInode 274 = .ok (.aload_n 0, 1) := by decide +kernel
theorem dX12_showInode_275 : decode cX12_showInode 275 = .ok (.getfield 27, 3) := by decide +kernel
theorem dX12_showInode_278 : decode cX12_showInode 278 = .ok (.iload_n 3, 1) := by decide +kernel
theorem dX12_showInode_279 : decode cX12_showInode 279 = .ok (.iaload, 1) := by decide +kernel
theorem dX12_showInode_280 : decode cX12_showInode 280 = .ok (.istore_n 3, 1) := by decide +kernel
theorem dX12_showInode_281 : decode cX12_showInode 281 = .ok (.aload_n 0, 1) := by decide +kernel
theorem dX12_showInode_282 : decode cX12_showInode 282 = .ok (.sipush 1024, 3) := by decide +kernel
theorem dX12_showInode_285 : decode cX12_showInode 285 = .ok (.aload_n 0, 1) := by decide +kernel
theorem dX12_showInode_286 : decode cX12_showInode 286 = .ok (.getfield 52, 3) := by decide +kernel
theorem dX12_showInode_289 : decode cX12_showInode 289 = .ok (.iload_n 1, 1) := by decide +kernel
theorem dX12_showInode_290 : decode cX12_showInode 290 = .ok (.iaload, 1) := by decide +kernel
theorem dX12_showInode_291 : decode cX12_showInode 291 = .ok (.imul, 1) := by decide +kernel
theorem dX12_showInode_292 : decode cX12_showInode 292 = .ok (.iload 5, 2) := by decide +kernel
theorem dX12_showInode_294 : decode cX12_showInode 294 = .ok (.sipush 268, 3) := by decide +kernel
theorem dX12_showInode_297 : decode cX12_showInode 297 = .ok (.isub, 1) := by decide +kernel
theorem dX12_showInode_298 : decode cX12_showInode 298 = .ok (.sipush 256, 3) := by decide +kernel
theorem dX12_showInode_301 : decode cX12_showInode 301 = .ok (.idiv, 1) := by decide +kernel
theorem dX12_showInode_302 : decode cX12_showInode 302 = .ok (.iconst 4, 1) := by decide +kernel
theorem dX12_showInode_303 : decode cX12_showInode 303 = .ok (.imul, 1) := by decide +kernel
theorem dX12_showInode_304 : decode cX12_showInode 304 = .ok (.iadd, 1) := by decide +kernel
theorem dX12_showInode_305 : decode cX12_showInode 305 = .ok (.iconst 4, 1) := by decide +kernel
theorem dX12_showInode_306 : decode cX12_showInode 306 = .ok (.iload_n 3, 1) := by decide +kernel
theorem dX12_showInode_307 : decode cX12_showInode 307 = .ok (.i2l, 1) := by decide +kernel
theorem dX12_showInode_308 : decode cX12_showInode 308 = .ok (.invokevirtual 157, 3) := by decide +kernel
theorem dX12_showInode_311 : decode cX12_showInode 311 = .ok (.aload_n 0, 1) := by decide +kernel
theorem dX12_showInode_312 : decode cX12_showInode 312 = .ok (.sipush 1024, 3) := by decide +kernel
theorem dX12_showInode_315 : decode cX12_showInode 315 = .ok (.iload_n 3, 1) := by decide +kernel
theorem dX12_showInode_316 : decode cX12_showInode 316 = .ok (.imul, 1) := by decide +kernel
theorem dX12_showInode_317 : decode cX12_showInode 317 = .ok (.iload 5, 2) := by decide +kernel
theorem dX12_showInode_319 : decode cX12_showInode 319 = .ok (.sipush 268, 3) := by decide +kernel
theorem dX12_showInode_322 : decode cX12_showInode 322 = .ok (.isub, 1) := by decide +kernel
theorem dX12_showInode_323 : decode cX12_showInode 323 = .ok (.sipush 256, 3) := by decide +kernel
theorem dX12_showInode_326 : decode cX12_showInode 326 = .ok (.irem, 1) := by decide +kernel
theorem dX12_showInode_327 : decode cX12_showInode 327 = .ok (.iconst 4, 1) := by decide +kernel
theorem dX12_showInode_328 : decode cX12_showInode 328 = .ok (.imul, 1) := by decide +kernel
theorem dX12_showInode_329 : decode cX12_showInode 329 = .ok (.iadd, 1) := by decide +kernel
theorem dX12_showInode_330 : decode cX12_showInode 330 = .ok (.iconst 4, 1) := by decide +kernel
theorem dX12_showInode_331 : decode cX12_showInode 331 = .ok (.iload 4, 2) := by decide +kernel
theorem dX12_showInode_333 : decode cX12_showInode 333 = .ok (.i2l, 1) := by decide +kernel
theorem dX12_showInode_334 : decode cX12_showInode 334 = .ok (.invokevirtual 157, 3) := by decide +kernel
theorem dX12_showInode_337 : decode cX12_showInode 337 = .ok (.iconst 0, 1) := by decide +kernel
theorem dX12_showInode_338 : decode cX12_showInode 338 = .ok (.istore 6, 2) := by decide +kernel
theorem dX12_showInode_340 : decode cX12_showInode 340 = .ok (.iload 6, 2) := by decide +kernel
theorem dX12_showInode_342 : decode cX12_showInode 342 = .ok (.sipush 1024, 3) := by decide +kernel
theorem dX12_showInode_345 : decode cX12_showInode 345 = .ok (.if_icmp .ge 37, 3) := by decide +kernel
theorem dX12_showInode_348 : decode cX12_showInode 348 = .ok (.aload_n 0, 1) := by decide +kernel
theorem dX12_showInode_349 : decode cX12_showInode 349 = .ok (.getfield 14, 3) := by decide +kernel
theorem dX12_showInode_352 : decode cX12_showInode 352 = .ok (.sipush 1024, 3) := by decide +kernel
theorem dX12_showInode_355 : decode cX12_showInode 355 = .ok (.iload 4, 2) := by decide +kernel
theorem dX12_showInode_357 : decode cX12_showInode 357 = .ok (.imul, 1) := by decide +kernel
theorem dX12_showInode_358 : decode cX12_showInode 358 = .ok (.iload 6, 2) := by decide +kernel
theorem dX12_showInode_360 : decode cX12_showInode 360 = .ok (.iadd, 1) := by decide +kernel
theorem dX12_showInode_361 : decode cX12_showInode 361 = .ok (.aload_n 0, 1) := by decide +kernel
theorem dX12_showInode_362 : decode cX12_showInode 362 = .ok (.getfield 8, 3) := by decide +kernel
theorem dX12_showInode_365 : decode cX12_showInode 365 = .ok (.sipush 1024, 3) := by decide +kernel
theorem dX12_showInode_368 : decode cX12_showInode 368 = .ok (.iload 4, 2) := by decide +kernel
theorem dX12_showInode_370 : decode cX12_showInode 370 = .ok (.imul, 1) := by decide +kernel
theorem dX12_showInode_371 : decode cX12_showInode 371 = .ok (.iload 6, 2) := by decide +kernel
theorem dX12_showInode_373 : decode cX12_showInode 373 = .ok (.iadd, 1) := by decide +kernel
theorem dX12_showInode_374 : decode cX12_showInode 374 = .ok (.baload, 1) := by decide +kernel
theorem dX12_showInode_375 : decode cX12_showInode 375 = .ok (.bastore, 1) := by decide +kernel
theorem dX12_showInode_376 : decode cX12_showInode 376 = .ok (.iinc 6 1, 3) := by decide +kernel
theorem dX12_showInode_379 : decode cX12_showInode 379 = .ok (.goto (-39), 3) := by decide +kernel
theorem dX12_showInode_382 : decode cX12_showInode 382 = .ok (.aload_n 0, 1) := by decide +kernel
theorem dX12_showInode_383 : decode cX12_showInode 383 = .ok (.getfield 27, 3) := by decide +kernel
theorem dX12_showInode_386 : decode cX12_showInode 386 = .ok (.iload 4, 2) := by decide +kernel
theorem dX12_showInode_388 : decode cX12_showInode 388 = .ok (.iaload, 1) := by decide +kernel
theorem dX12_showInode_389 : decode cX12_showInode 389 = .ok (.istore 4, 2) := by decide +kernel
theorem dX12_showInode_391 : decode cX12_showInode 391 = .ok (.iinc 5 1, 3) := by decide +kernel
theorem dX12_showInode_394 : decode cX12_showInode 394 = .ok (.goto (-225), 3) := by decide +kernel
theorem dX12_showInode_397 : decode cX12_showInode 397 = .ok (.return_, 1) := by decide +kernel
theorem dX12_inodeAt_0 : decode cX12_inodeAt 0 = .ok (.sipush 1024, 3) := by decide +kernel
theorem dX12_inodeAt_3 : decode cX12_inodeAt 3 = .ok (.aload_n 0, 1) := by decide +kernel
theorem dX12_inodeAt_4 : decode cX12_inodeAt 4 = .ok (.iload_n 1, 1) := by decide +kernel
theorem dX12_inodeAt_5 : decode cX12_inodeAt 5 = .ok (.iconst 1, 1) := by decide +kernel
theorem dX12_inodeAt_6 : decode cX12_inodeAt 6 = .ok (.isub, 1) := by decide +kernel
theorem dX12_inodeAt_7 : decode cX12_inodeAt 7 = .ok (.aload_n 0, 1) := by decide +kernel
theorem dX12_inodeAt_8 : decode cX12_inodeAt 8 = .ok (.getfield 91, 3) := by decide +kernel
theorem dX12_inodeAt_11 : decode cX12_inodeAt 11 = .ok (.idiv, 1) := by decide +kernel
theorem dX12_inodeAt_12 : decode cX12_inodeAt 12 = .ok (.invokevirtual 84, 3) := by decide +kernel
theorem dX12_inodeAt_15 : decode cX12_inodeAt 15 = .ok (.iconst 4, 1) := by decide +kernel
theorem dX12_inodeAt_16 : decode cX12_inodeAt 16 = .ok (.iadd, 1) := by decide +kernel
theorem dX12_inodeAt_17 : decode cX12_inodeAt 17 = .ok (.imul, 1) := by decide +kernel
theorem dX12_inodeAt_18 : decode cX12_inodeAt 18 = .ok (.sipush 128, 3) := by decide +kernel
theorem dX12_inodeAt_21 : decode cX12_inodeAt 21 = .ok (.iload_n 1, 1) := by decide +kernel
theorem dX12_inodeAt_22 : decode cX12_inodeAt 22 = .ok (.iconst 1, 1) := by decide +kernel
theorem dX12_inodeAt_23 : decode cX12_inodeAt 23 = .ok (.isub, 1) := by decide +kernel
theorem dX12_inodeAt_24 : decode cX12_inodeAt 24 = .ok (.aload_n 0, 1) := by decide +kernel
theorem dX12_inodeAt_25 : decode cX12_inodeAt 25 = .ok (.getfield 91, 3) := by decide +kernel
theorem dX12_inodeAt_28 : decode cX12_inodeAt 28 = .ok (.irem, 1) := by decide +kernel
theorem dX12_inodeAt_29 : decode cX12_inodeAt 29 = .ok (.imul, 1) := by decide +kernel
theorem dX12_inodeAt_30 : decode cX12_inodeAt 30 = .ok (.iadd, 1) := by decide +kernel
theorem dX12_inodeAt_31 : decode cX12_inodeAt 31 = .ok (.ireturn, 1) := by decide +kernel
theorem dX12_all_0 : decode cX12_all 0 = .ok (.iload_n 0, 1) := by decide +kernel
theorem dX12_all_1 : decode cX12_all 1 = .ok (.iload_n 0, 1) := by decide +kernel
theorem dX12_all_2 : decode cX12_all 2 = .ok (.bipush 12, 2) := by decide +kernel
theorem dX12_all_4 : decode cX12_all 4 = .ok (.if_icmp .le 7, 3) := by decide +kernel
theorem dX12_all_7 : decode cX12_all 7 = .ok (.iconst 1, 1) := by decide +kernel
theorem dX12_all_8 : decode cX12_all 8 = .ok (.goto 4, 3) := by decide +kernel
theorem dX12_all_11 : decode cX12_all 11 = .ok (.iconst 0, 1) := by decide +kernel
theorem dX12_all_12 : decode cX12_all 12 = .ok (.iadd, 1) := by decide +kernel
theorem dX12_all_13 : decode cX12_all 13 = .ok (.iload_n 0, 1) := by decide +kernel
theorem dX12_all_14 : decode cX12_all 14 = .ok (.sipush 268, 3) := by decide +kernel
theorem dX12_all_17 : decode cX12_all 17 = .ok (.if_icmp .le 19, 3) := by decide +kernel
theorem dX12_all_20 : decode cX12_all 20 = .ok (.iconst 1, 1) := by decide +kernel
theorem dX12_all_21 : decode cX12_all 21 = .ok (.iload_n 0, 1) := by decide +kernel
theorem dX12_all_22 : decode cX12_all 22 = .ok (.sipush 268, 3) := by decide +kernel
theorem dX12_all_25 : decode cX12_all 25 = .ok (.isub, 1) := by decide +kernel
theorem dX12_all_26 : decode cX12_all 26 = .ok (.sipush 256, 3) := by decide +kernel
theorem dX12_all_29 : decode cX12_all 29 = .ok (.invokestatic 94, 3) := by decide +kernel
theorem dX12_all_32 : decode cX12_all 32 = .ok (.iadd, 1) := by decide +kernel
theorem dX12_all_33 : decode cX12_all 33 = .ok (.goto 4, 3) := by decide +kernel
theorem dX12_all_36 : decode cX12_all 36 = .ok (.iconst 0, 1) := by decide +kernel
theorem dX12_all_37 : decode cX12_all 37 = .ok (.iadd, 1) := by decide +kernel
theorem dX12_all_38 : decode cX12_all 38 = .ok (.ireturn, 1) := by decide +kernel
theorem dX12_fault_0 : decode cX12_fault 0 = .ok (.aload_n 0, 1) := by decide +kernel
theorem dX12_fault_1 : decode cX12_fault 1 = .ok (.iconst 0, 1) := by decide +kernel
theorem dX12_fault_2 : decode cX12_fault 2 = .ok (.putfield 72, 3) := by decide +kernel
theorem dX12_fault_5 : decode cX12_fault 5 = .ok (.aload_n 0, 1) := by decide +kernel
theorem dX12_fault_6 : decode cX12_fault 6 = .ok (.getfield 133, 3) := by decide +kernel
theorem dX12_fault_9 : decode cX12_fault 9 = .ok (.ifCond .eq 7, 3) := by decide +kernel
theorem dX12_fault_12 : decode cX12_fault 12 = .ok (.iconst 0, 1) := by decide +kernel
theorem dX12_fault_13 : decode cX12_fault 13 = .ok (.goto 4, 3) := by decide +kernel
theorem dX12_fault_16 : decode cX12_fault 16 = .ok (.iconst (-1), 1) := by decide +kernel
theorem dX12_fault_17 : decode cX12_fault 17 = .ok (.ireturn, 1) := by decide +kernel
theorem dX12_many_0 : decode cX12_many 0 = .ok (.aload_n 0, 1) := by decide +kernel
theorem dX12_many_1 : decode cX12_many 1 = .ok (.iconst 0, 1) := by decide +kernel
theorem dX12_many_2 : decode cX12_many 2 = .ok (.putfield 72, 3) := by decide +kernel
theorem dX12_many_5 : decode cX12_many 5 = .ok (.aload_n 0, 1) := by decide +kernel
theorem dX12_many_6 : decode cX12_many 6 = .ok (.getfield 133, 3) := by decide +kernel
theorem dX12_many_9 : decode cX12_many 9 = .ok (.ifCond .ne 5, 3) := by decide +kernel
theorem dX12_many_12 : decode cX12_many 12 = .ok (.iconst (-1), 1) := by decide +kernel
theorem dX12_many_13 : decode cX12_many 13 = .ok (.ireturn, 1) := by decide +kernel
theorem dX12_many_14 : decode cX12_many 14 = .ok (.iload_n 1, 1) := by decide +kernel
theorem dX12_many_15 : decode cX12_many 15 = .ok (.ifCond .ne 10, 3) := by decide +kernel
theorem dX12_many_18 : decode cX12_many 18 = .ok (.aload_n 0, 1) := by decide +kernel
theorem dX12_many_19 : decode cX12_many 19 = .ok (.invokevirtual 140, 3) := by decide +kernel
theorem dX12_many_22 : decode cX12_many 22 = .ok (.goto 40, 3) := by decide +kernel
theorem dX12_many_25 : decode cX12_many 25 = .ok (.iload_n 1, 1) := by decide +kernel
theorem dX12_many_26 : decode cX12_many 26 = .ok (.iconst 1, 1) := by decide +kernel
theorem dX12_many_27 : decode cX12_many 27 = .ok (.if_icmp .ne 10, 3) := by decide +kernel
theorem dX12_many_30 : decode cX12_many 30 = .ok (.aload_n 0, 1) := by decide +kernel
theorem dX12_many_31 : decode cX12_many 31 = .ok (.invokevirtual 167, 3) := by decide +kernel
theorem dX12_many_34 : decode cX12_many 34 = .ok (.goto 28, 3) := by decide +kernel
theorem dX12_many_37 : decode cX12_many 37 = .ok (.iload_n 1, 1) := by decide +kernel
theorem dX12_many_38 : decode cX12_many 38 = .ok (.iconst 2, 1) := by decide +kernel
theorem dX12_many_39 : decode cX12_many 39 = .ok (.if_icmp .ne 10, 3) := by decide +kernel
theorem dX12_many_42 : decode cX12_many 42 = .ok (.aload_n 0, 1) := by decide +kernel
theorem dX12_many_43 : decode cX12_many 43 = .ok (.getfield 81, 3) := by decide +kernel
theorem dX12_many_46 : decode cX12_many 46 = .ok (.goto 16, 3) := by decide +kernel
theorem dX12_many_49 : decode cX12_many 49 = .ok (.iload_n 1, 1) := by decide +kernel
theorem dX12_many_50 : decode cX12_many 50 = .ok (.iconst 3, 1) := by decide +kernel
theorem dX12_many_51 : decode cX12_many 51 = .ok (.if_icmp .ne 10, 3) := by decide +kernel
theorem dX12_many_54 : decode cX12_many 54 = .ok (.aload_n 0, 1) := by decide +kernel
theorem dX12_many_55 : decode cX12_many 55 = .ok (.getfield 91, 3) := by decide +kernel
theorem dX12_many_58 : decode cX12_many 58 = .ok (.goto 4, 3) := by decide +kernel
theorem dX12_many_61 : decode cX12_many 61 = .ok (.iconst (-1), 1) := by decide +kernel
theorem dX12_many_62 : decode cX12_many 62 = .ok (.ireturn, 1) := by decide +kernel
theorem dX12_items_0 : decode cX12_items 0 = .ok (.aload_n 0, 1) := by decide +kernel
theorem dX12_items_1 : decode cX12_items 1 = .ok (.invokevirtual 209, 3) := by decide +kernel
theorem dX12_items_4 : decode cX12_items 4 = .ok (.ifCond .eq 7, 3) := by decide +kernel
theorem dX12_items_7 : decode cX12_items 7 = .ok (.iconst 0, 1) := by decide +kernel
theorem dX12_items_8 : decode cX12_items 8 = .ok (.goto 11, 3) := by decide +kernel
theorem dX12_items_11 : decode cX12_items 11 = .ok (.aload_n 0, 1) := by decide +kernel
theorem dX12_items_12 : decode cX12_items 12 = .ok (.aload_n 0, 1) := by decide +kernel
theorem dX12_items_13 : decode cX12_items 13 = .ok (.getfield 130, 3) := by decide +kernel
theorem dX12_items_16 : decode cX12_items 16 = .ok (.invokevirtual 213, 3) := by decide +kernel
theorem dX12_items_19 : decode cX12_items 19 = .ok (.ireturn, 1) := by decide +kernel
theorem dX12_none_0 : decode cX12_none 0 = .ok (.aload_n 0, 1) := by decide +kernel
theorem dX12_none_1 : decode cX12_none 1 = .ok (.iconst 0, 1) := by decide +kernel
theorem dX12_none_2 : decode cX12_none 2 = .ok (.putfield 72, 3) := by decide +kernel
theorem dX12_none_5 : decode cX12_none 5 = .ok (.aload_n 0, 1) := by decide +kernel
theorem dX12_none_6 : decode cX12_none 6 = .ok (.aload_n 0, 1) := by decide +kernel
theorem dX12_none_7 : decode cX12_none 7 = .ok (.getfield 133, 3) := by decide +kernel
theorem dX12_none_10 : decode cX12_none 10 = .ok (.ifCond .ne 7, 3) := by decide +kernel
theorem dX12_none_13 : decode cX12_none 13 = .ok (.iconst 1, 1) := by decide +kernel
theorem dX12_none_14 : decode cX12_none 14 = .ok (.goto 4, 3) := by decide +kernel
theorem dX12_none_17 : decode cX12_none 17 = .ok (.iconst 0, 1) := by decide +kernel
theorem dX12_none_18 : decode cX12_none 18 = .ok (.iconst 1, 1) := by decide +kernel
theorem dX12_none_19 : decode cX12_none 19 = .ok (.invokevirtual 205, 3) := by decide +kernel
theorem dX12_none_22 : decode cX12_none 22 = .ok (.ireturn, 1) := by decide +kernel
theorem dX12_fails_0 : decode cX12_fails 0 = .ok (.iload_n 1, 1) := by decide +kernel
theorem dX12_fails_1 : decode cX12_fails 1 = .ok (.ifCond .eq 15, 3) := by decide +kernel
theorem dX12_fails_4 : decode cX12_fails 4 = .ok (.aload_n 0, 1) := by decide +kernel
theorem dX12_fails_5 : decode cX12_fails 5 = .ok (.getfield 72, 3) := by decide +kernel
theorem dX12_fails_8 : decode cX12_fails 8 = .ok (.ifCond .ne 8, 3) := by decide +kernel
theorem dX12_fails_11 : decode cX12_fails 11 = .ok (.aload_n 0, 1) := by decide +kernel
theorem dX12_fails_12 : decode cX12_fails 12 = .ok (.iload_n 2, 1) := by decide +kernel
theorem dX12_fails_13 : decode cX12_fails 13 = .ok (.putfield 72, 3) := by decide +kernel
theorem dX12_fails_16 : decode cX12_fails 16 = .ok (.aload_n 0, 1) := by decide +kernel
theorem dX12_fails_17 : decode cX12_fails 17 = .ok (.getfield 72, 3) := by decide +kernel
theorem dX12_fails_20 : decode cX12_fails 20 = .ok (.ifCond .eq 7, 3) := by decide +kernel
theorem dX12_fails_23 : decode cX12_fails 23 = .ok (.iconst 1, 1) := by decide +kernel
theorem dX12_fails_24 : decode cX12_fails 24 = .ok (.goto 4, 3) := by decide +kernel
theorem dX12_fails_27 : decode cX12_fails 27 = .ok (.iconst 0, 1) := by decide +kernel
theorem dX12_fails_28 : decode cX12_fails 28 = .ok (.ireturn, 1) := by decide +kernel
theorem dX12_count_0 : decode cX12_count 0 = .ok (.aload_n 0, 1) := by decide +kernel
theorem dX12_count_1 : decode cX12_count 1 = .ok (.iload_n 1, 1) := by decide +kernel
theorem dX12_count_2 : decode cX12_count 2 = .ok (.iconst (-1), 1) := by decide +kernel
theorem dX12_count_3 : decode cX12_count 3 = .ok (.invokevirtual 201, 3) := by decide +kernel
theorem dX12_count_6 : decode cX12_count 6 = .ok (.istore_n 2, 1) := by decide +kernel
theorem dX12_count_7 : decode cX12_count 7 = .ok (.iload_n 2, 1) := by decide +kernel
theorem dX12_count_8 : decode cX12_count 8 = .ok (.ifCond .eq 7, 3) := by decide +kernel
theorem dX12_count_11 : decode cX12_count 11 = .ok (.iconst 0, 1) := by decide +kernel
theorem dX12_count_12 : decode cX12_count 12 = .ok (.goto 7, 3) := by decide +kernel
theorem dX12_count_15 : decode cX12_count 15 = .ok (.aload_n 0, 1) := by decide +kernel
theorem dX12_count_16 : decode cX12_count 16 = .ok (.getfield 192, 3) := by decide +kernel
theorem dX12_count_19 : decode cX12_count 19 = .ok (.ireturn, 1) := by decide +kernel
theorem dX12_finds_0 : decode cX12_finds 0 = .ok (.aload_n 0, 1) := by decide +kernel
theorem dX12_finds_1 : decode cX12_finds 1 = .ok (.iconst 0, 1) := by decide +kernel
theorem dX12_finds_2 : decode cX12_finds 2 = .ok (.putfield 192, 3) := by decide +kernel
theorem dX12_finds_5 : decode cX12_finds 5 = .ok (.aload_n 0, 1) := by decide +kernel
theorem dX12_finds_6 : decode cX12_finds 6 = .ok (.getfield 43, 3) := by decide +kernel
theorem dX12_finds_9 : decode cX12_finds 9 = .ok (.iload_n 1, 1) := by decide +kernel
theorem dX12_finds_10 : decode cX12_finds 10 = .ok (.iaload, 1) := by decide +kernel
theorem dX12_finds_11 : decode cX12_finds 11 = .ok (.istore_n 3, 1) := by decide +kernel
theorem dX12_finds_12 : decode cX12_finds 12 = .ok (.iconst 0, 1) := by decide +kernel
theorem dX12_finds_13 : decode cX12_finds 13 = .ok (.istore 4, 2) := by decide +kernel
theorem dX12_finds_15 : decode cX12_finds 15 = .ok (.iload 4, 2) := by decide +kernel
theorem dX12_finds_17 : decode cX12_finds 17 = .ok (.aload_n 0, 1) := by decide +kernel
theorem dX12_finds_18 : decode cX12_finds 18 = .ok (.getfield 40, 3) := by decide +kernel
theorem dX12_finds_21 : decode cX12_finds 21 = .ok (.iload_n 1, 1) := by decide +kernel
theorem dX12_finds_22 : decode cX12_finds 22 = .ok (.iaload, 1) := by decide +kernel
theorem dX12_finds_23 : decode cX12_finds 23 = .ok (.if_icmp .ge 129, 3) := by decide +kernel
theorem dX12_finds_26 : decode cX12_finds 26 = .ok (.aload_n 0, 1) := by decide +kernel
theorem dX12_finds_27 : decode cX12_finds 27 = .ok (.iconst (-1), 1) := by decide +kernel
theorem dX12_finds_28 : decode cX12_finds 28 = .ok (.putfield 195, 3) := by decide +kernel
theorem dX12_finds_31 : decode cX12_finds 31 = .ok (.sipush 1024, 3) := by decide +kernel
theorem dX12_finds_34 : decode cX12_finds 34 = .ok (.iload_n 3, 1) := by decide +kernel
theorem dX12_finds_35 : decode cX12_finds 35 = .ok (.imul, 1) := by decide +kernel
theorem dX12_finds_36 : decode cX12_finds 36 = .ok (.istore 5, 2) := by decide +kernel
theorem dX12_finds_38 : decode cX12_finds 38 = .ok (.iload 5, 2) := by decide +kernel
theorem dX12_finds_40 : decode cX12_finds 40 = .ok (.sipush 1024, 3) := by decide +kernel
theorem dX12_finds_43 : decode cX12_finds 43 = .ok (.iload_n 3, 1) := by decide +kernel
theorem dX12_finds_44 : decode cX12_finds 44 = .ok (.imul, 1) := by decide +kernel
theorem dX12_finds_45 : decode cX12_finds 45 = .ok (.sipush 1024, 3) := by decide +kernel
theorem dX12_finds_48 : decode cX12_finds 48 = .ok (.iadd, 1) := by decide +kernel
theorem dX12_finds_49 : decode cX12_finds 49 = .ok (.if_icmp .ge 90, 3) := by decide +kernel
theorem dX12_finds_52 : decode cX12_finds 52 = .ok (.iload 4, 2) := by decide +kernel
theorem dX12_finds_54 : decode cX12_finds 54 = .ok (.ifCond .ne 20, 3) := by decide +kernel
theorem dX12_finds_57 : decode cX12_finds 57 = .ok (.iload 5, 2) := by decide +kernel
theorem dX12_finds_59 : decode cX12_finds 59 = .ok (.sipush 1024, 3) := by decide +kernel
theorem dX12_finds_62 : decode cX12_finds 62 = .ok (.iload_n 3, 1) := by decide +kernel
theorem dX12_finds_63 : decode cX12_finds 63 = .ok (.imul, 1) := by decide +kernel
theorem dX12_finds_64 : decode cX12_finds 64 = .ok (.bipush 24, 2) := by decide +kernel
theorem dX12_finds_66 : decode cX12_finds 66 = .ok (.iadd, 1) := by decide +kernel
theorem dX12_finds_67 : decode cX12_finds 67 = .ok (.if_icmp .ge 7, 3) := by decide +kernel
theorem dX12_finds_70 : decode cX12_finds 70 = .ok (.iconst 1, 1) := by decide +kernel
theorem dX12_finds_71 : decode cX12_finds 71 = .ok (.goto 4, 3) := by decide +kernel
theorem dX12_finds_74 : decode cX12_finds 74 = .ok (.iconst 0, 1) := by decide +kernel
theorem dX12_finds_75 : decode cX12_finds 75 = .ok (.istore 6, 2) := by decide +kernel
theorem dX12_finds_77 : decode cX12_finds 77 = .ok (.iload 6, 2) := by decide +kernel
theorem dX12_finds_79 : decode cX12_finds 79 = .ok (.ifCond .ne 38, 3) := by decide +kernel
theorem dX12_finds_82 : decode cX12_finds 82 = .ok (.aload_n 0, 1) := by decide +kernel
theorem dX12_finds_83 : decode cX12_finds 83 = .ok (.iload 5, 2) := by decide +kernel
theorem dX12_finds_85 : decode cX12_finds 85 = .ok (.invokevirtual 189, 3) := by decide +kernel
theorem dX12_finds_88 : decode cX12_finds 88 = .ok (.ifCond .eq 29, 3) := by decide +kernel
theorem dX12_finds_91 : decode cX12_finds 91 = .ok (.aload_n 0, 1) := by decide +kernel
theorem dX12_finds_92 : decode cX12_finds 92 = .ok (.iload 5, 2) := by decide +kernel
theorem dX12_finds_94 : decode cX12_finds 94 = .ok (.putfield 198, 3) := by decide +kernel
theorem dX12_finds_97 : decode cX12_finds 97 = .ok (.aload_n 0, 1) := by decide +kernel
theorem dX12_finds_98 : decode cX12_finds 98 = .ok (.getfield 192, 3) := by decide +kernel
theorem dX12_finds_101 : decode cX12_finds 101 = .ok (.iload_n 2, 1) := by decide +kernel
theorem dX12_finds_102 : decode cX12_finds 102 = .ok (.if_icmp .ne 5, 3) := by decide +kernel
theorem dX12_finds_105 : decode cX12_finds 105 = .ok (.iconst 1, 1) := by decide +kernel
theorem dX12_finds_106 : decode cX12_finds 106 = .ok (.ireturn, 1) := by decide +kernel
theorem dX12_finds_107 : decode cX12_finds 107 = .ok (.aload_n 0, 1) := by decide +kernel
theorem dX12_finds_108 : decode cX12_finds 108 = .ok (.dup, 1) := by decide +kernel
theorem dX12_finds_109 : decode cX12_finds 109 = .ok (.getfield 192, 3) := by decide +kernel
theorem dX12_finds_112 : decode cX12_finds 112 = .ok (.iconst 1, 1) := by decide +kernel
theorem dX12_finds_113 : decode cX12_finds 113 = .ok (.iadd, 1) := by decide +kernel
theorem dX12_finds_114 : decode cX12_finds 114 = .ok (.putfield 192, 3) := by decide +kernel
theorem dX12_finds_117 : decode cX12_finds 117 = .ok (.aload_n 0, 1) := by decide +kernel
theorem dX12_finds_118 : decode cX12_finds 118 = .ok (.iload 5, 2) := by decide +kernel
theorem dX12_finds_120 : decode cX12_finds 120 = .ok (.putfield 195, 3) := by decide +kernel
theorem dX12_finds_123 : decode cX12_finds 123 = .ok (.iload 5, 2) := by decide +kernel
theorem dX12_finds_125 : decode cX12_finds 125 = .ok (.aload_n 0, 1) := by decide +kernel
theorem dX12_finds_126 : decode cX12_finds 126 = .ok (.iload 5, 2) := by decide +kernel
theorem dX12_finds_128 : decode cX12_finds 128 = .ok (.iconst 4, 1) := by decide +kernel
theorem dX12_finds_129 : decode cX12_finds 129 = .ok (.iadd, 1) := by decide +kernel
theorem dX12_finds_130 : decode cX12_finds 130 = .ok (.invokevirtual 105, 3) := by decide +kernel
theorem dX12_finds_133 : decode cX12_finds 133 = .ok (.iadd, 1) := by decide +kernel
theorem dX12_finds_134 : decode cX12_finds 134 = .ok (.istore 5, 2) := by decide +kernel
theorem dX12_finds_136 : decode cX12_finds 136 = .ok (.goto (-98), 3) := by decide +kernel
theorem dX12_finds_139 : decode cX12_finds 139 = .ok (.aload_n 0, 1) := by decide +kernel
theorem dX12_finds_140 : decode cX12_finds 140 = .ok (.getfield 27, 3) := by decide +kernel
theorem dX12_finds_143 : decode cX12_finds 143 = .ok (.iload_n 3, 1) := by decide +kernel
theorem dX12_finds_144 : decode cX12_finds 144 = .ok (.iaload, 1) := by decide +kernel
theorem dX12_finds_145 : decode cX12_finds 145 = .ok (.istore_n 3, 1) := by decide +kernel
theorem dX12_finds_146 : decode cX12_finds 146 = .ok (.iinc 4 1, 3) := by decide +kernel
theorem dX12_finds_149 : decode cX12_finds 149 = .ok (.goto (-134), 3) := by decide +kernel
theorem dX12_finds_152 : decode cX12_finds 152 = .ok (.iconst 0, 1) := by decide +kernel
theorem dX12_finds_153 : decode cX12_finds 153 = .ok (.ireturn, 1) := by decide +kernel
theorem dX12_four_0 : decode cX12_four 0 = .ok (.aload_n 0, 1) := by decide +kernel
theorem dX12_four_1 : decode cX12_four 1 = .ok (.iload_n 1, 1) := by decide +kernel
theorem dX12_four_2 : decode cX12_four 2 = .ok (.invokevirtual 105, 3) := by decide +kernel
theorem dX12_four_5 : decode cX12_four 5 = .ok (.ldc 108, 2) := by decide +kernel
theorem dX12_four_7 : decode cX12_four 7 = .ok (.aload_n 0, 1) := by decide +kernel
theorem dX12_four_8 : decode cX12_four 8 = .ok (.iload_n 1, 1) := by decide +kernel
theorem dX12_four_9 : decode cX12_four 9 = .ok (.iconst 2, 1) := by decide +kernel
theorem dX12_four_10 : decode cX12_four 10 = .ok (.iadd, 1) := by decide +kernel
theorem dX12_four_11 : decode cX12_four 11 = .ok (.invokevirtual 105, 3) := by decide +kernel
theorem dX12_four_14 : decode cX12_four 14 = .ok (.imul, 1) := by decide +kernel
theorem dX12_four_15 : decode cX12_four 15 = .ok (.iadd, 1) := by decide +kernel
theorem dX12_four_16 : decode cX12_four 16 = .ok (.ireturn, 1) := by decide +kernel
theorem dX12_two_0 : decode cX12_two 0 = .ok (.aload_n 0, 1) := by decide +kernel
theorem dX12_two_1 : decode cX12_two 1 = .ok (.iload_n 1, 1) := by decide +kernel
theorem dX12_two_2 : decode cX12_two 2 = .ok (.invokevirtual 102, 3) := by decide +kernel
theorem dX12_two_5 : decode cX12_two 5 = .ok (.sipush 256, 3) := by decide +kernel
theorem dX12_two_8 : decode cX12_two 8 = .ok (.aload_n 0, 1) := by decide +kernel
theorem dX12_two_9 : decode cX12_two 9 = .ok (.iload_n 1, 1) := by decide +kernel
theorem dX12_two_10 : decode cX12_two 10 = .ok (.iconst 1, 1) := by decide +kernel
theorem dX12_two_11 : decode cX12_two 11 = .ok (.iadd, 1) := by decide +kernel
theorem dX12_two_12 : decode cX12_two 12 = .ok (.invokevirtual 102, 3) := by decide +kernel
theorem dX12_two_15 : decode cX12_two 15 = .ok (.imul, 1) := by decide +kernel
theorem dX12_two_16 : decode cX12_two 16 = .ok (.iadd, 1) := by decide +kernel
theorem dX12_two_17 : decode cX12_two 17 = .ok (.ireturn, 1) := by decide +kernel
theorem dX12_one_0 : decode cX12_one 0 = .ok (.aload_n 0, 1) := by decide +kernel
theorem dX12_one_1 : decode cX12_one 1 = .ok (.getfield 8, 3) := by decide +kernel
theorem dX12_one_4 : decode cX12_one 4 = .ok (.iload_n 1, 1) := by decide +kernel
theorem dX12_one_5 : decode cX12_one 5 = .ok (.baload, 1) := by decide +kernel
theorem dX12_one_6 : decode cX12_one 6 = .ok (.sipush 255, 3) := by decide +kernel
theorem dX12_one_9 : decode cX12_one 9 = .ok (.iand, 1) := by decide +kernel
theorem dX12_one_10 : decode cX12_one 10 = .ok (.ireturn, 1) := by decide +kernel
theorem dX12_letter_0 : decode cX12_letter 0 = .ok (.aload_n 0, 1) := by decide +kernel
theorem dX12_letter_1 : decode cX12_letter 1 = .ok (.iload_n 1, 1) := by decide +kernel
theorem dX12_letter_2 : decode cX12_letter 2 = .ok (.invokevirtual 216, 3) := by decide +kernel
theorem dX12_letter_5 : decode cX12_letter 5 = .ok (.ifCond .eq 5, 3) := by decide +kernel
theorem dX12_letter_8 : decode cX12_letter 8 = .ok (.iconst 0, 1) := by decide +kernel
theorem dX12_letter_9 : decode cX12_letter 9 = .ok (.ireturn, 1) := by decide +kernel
theorem dX12_letter_10 : decode cX12_letter 10 = .ok (.iload_n 2, 1) := by decide +kernel
theorem dX12_letter_11 : decode cX12_letter 11 = .ok (.ifCond .lt 18, 3) := by decide +kernel
theorem dX12_letter_14 : decode cX12_letter 14 = .ok (.iload_n 2, 1) := by decide +kernel
theorem dX12_letter_15 : decode cX12_letter 15 = .ok (.aload_n 0, 1) := by decide +kernel
theorem dX12_letter_16 : decode cX12_letter 16 = .ok (.aload_n 0, 1) := by decide +kernel
theorem dX12_letter_17 : decode cX12_letter 17 = .ok (.getfield 198, 3) := by decide +kernel
theorem dX12_letter_20 : decode cX12_letter 20 = .ok (.bipush 6, 2) := by decide +kernel
theorem dX12_letter_22 : decode cX12_letter 22 = .ok (.iadd, 1) := by decide +kernel
theorem dX12_letter_23 : decode cX12_letter 23 = .ok (.invokevirtual 102, 3) := by decide +kernel
theorem dX12_letter_26 : decode cX12_letter 26 = .ok (.if_icmp .lt 7, 3) := by decide +kernel
theorem dX12_letter_29 : decode cX12_letter 29 = .ok (.iconst (-1), 1) := by decide +kernel
theorem dX12_letter_30 : decode cX12_letter 30 = .ok (.goto 16, 3) := by decide +kernel
theorem dX12_letter_33 : decode cX12_letter 33 = .ok (.aload_n 0, 1) := by decide +kernel
theorem dX12_letter_34 : decode cX12_letter 34 = .ok (.aload_n 0, 1) := by decide +kernel
theorem dX12_letter_35 : decode cX12_letter 35 = .ok (.getfield 198, 3) := by decide +kernel
theorem dX12_letter_38 : decode cX12_letter 38 = .ok (.bipush 8, 2) := by decide +kernel
theorem dX12_letter_40 : decode cX12_letter 40 = .ok (.iadd, 1) := by decide +kernel
theorem dX12_letter_41 : decode cX12_letter 41 = .ok (.iload_n 2, 1) := by decide +kernel
theorem dX12_letter_42 : decode cX12_letter 42 = .ok (.iadd, 1) := by decide +kernel
theorem dX12_letter_43 : decode cX12_letter 43 = .ok (.invokevirtual 102, 3) := by decide +kernel
theorem dX12_letter_46 : decode cX12_letter 46 = .ok (.ireturn, 1) := by decide +kernel
theorem dX12_no_0 : decode cX12_no 0 = .ok (.aload_n 0, 1) := by decide +kernel
theorem dX12_no_1 : decode cX12_no 1 = .ok (.invokevirtual 209, 3) := by decide +kernel
theorem dX12_no_4 : decode cX12_no 4 = .ok (.ifCond .ne 32, 3) := by decide +kernel
theorem dX12_no_7 : decode cX12_no 7 = .ok (.aload_n 0, 1) := by decide +kernel
theorem dX12_no_8 : decode cX12_no 8 = .ok (.iload_n 1, 1) := by decide +kernel
theorem dX12_no_9 : decode cX12_no 9 = .ok (.ifCond .lt 15, 3) := by decide +kernel
theorem dX12_no_12 : decode cX12_no 12 = .ok (.aload_n 0, 1) := by decide +kernel
theorem dX12_no_13 : decode cX12_no 13 = .ok (.aload_n 0, 1) := by decide +kernel
theorem dX12_no_14 : decode cX12_no 14 = .ok (.getfield 130, 3) := by decide +kernel
theorem dX12_no_17 : decode cX12_no 17 = .ok (.iload_n 1, 1) := by decide +kernel
theorem dX12_no_18 : decode cX12_no 18 = .ok (.invokevirtual 201, 3) := by decide +kernel
theorem dX12_no_21 : decode cX12_no 21 = .ok (.ifCond .ne 7, 3) := by decide +kernel
theorem dX12_no_24 : decode cX12_no 24 = .ok (.iconst 1, 1) := by decide +kernel
theorem dX12_no_25 : decode cX12_no 25 = .ok (.goto 4, 3) := by decide +kernel
theorem dX12_no_28 : decode cX12_no 28 = .ok (.iconst 0, 1) := by decide +kernel
theorem dX12_no_29 : decode cX12_no 29 = .ok (.iconst 2, 1) := by decide +kernel
theorem dX12_no_30 : decode cX12_no 30 = .ok (.invokevirtual 205, 3) := by decide +kernel
theorem dX12_no_33 : decode cX12_no 33 = .ok (.ifCond .eq 7, 3) := by decide +kernel
theorem dX12_no_36 : decode cX12_no 36 = .ok (.iconst 1, 1) := by decide +kernel
theorem dX12_no_37 : decode cX12_no 37 = .ok (.goto 4, 3) := by decide +kernel
theorem dX12_no_40 : decode cX12_no 40 = .ok (.iconst 0, 1) := by decide +kernel
theorem dX12_no_41 : decode cX12_no 41 = .ok (.ireturn, 1) := by decide +kernel
theorem dX12_about_0 : decode cX12_about 0 = .ok (.aload_n 0, 1) := by decide +kernel
theorem dX12_about_1 : decode cX12_about 1 = .ok (.iload_n 1, 1) := by decide +kernel
theorem dX12_about_2 : decode cX12_about 2 = .ok (.invokevirtual 216, 3) := by decide +kernel
theorem dX12_about_5 : decode cX12_about 5 = .ok (.ifCond .ne 26, 3) := by decide +kernel
theorem dX12_about_8 : decode cX12_about 8 = .ok (.aload_n 0, 1) := by decide +kernel
theorem dX12_about_9 : decode cX12_about 9 = .ok (.iload_n 2, 1) := by decide +kernel
theorem dX12_about_10 : decode cX12_about 10 = .ok (.ifCond .lt 9, 3) := by decide +kernel
theorem dX12_about_13 : decode cX12_about 13 = .ok (.iload_n 2, 1) := by decide +kernel
theorem dX12_about_14 : decode cX12_about 14 = .ok (.bipush 6, 2) := by decide +kernel
theorem dX12_about_16 : decode cX12_about 16 = .ok (.if_icmp .le 7, 3) := by decide +kernel
theorem dX12_about_19 : decode cX12_about 19 = .ok (.iconst 1, 1) := by decide +kernel
theorem dX12_about_20 : decode cX12_about 20 = .ok (.goto 4, 3) := by decide +kernel
theorem dX12_about_23 : decode cX12_about 23 = .ok (.iconst 0, 1) := by decide +kernel
theorem dX12_about_24 : decode cX12_about 24 = .ok (.iconst 3, 1) := by decide +kernel
theorem dX12_about_25 : decode cX12_about 25 = .ok (.invokevirtual 205, 3) := by decide +kernel
theorem dX12_about_28 : decode cX12_about 28 = .ok (.ifCond .eq 5, 3) := by decide +kernel
theorem dX12_about_31 : decode cX12_about 31 = .ok (.lconst 0, 1) := by decide +kernel
theorem dX12_about_32 : decode cX12_about 32 = .ok (.lreturn, 1) := by decide +kernel
theorem dX12_about_33 : decode cX12_about 33 = .ok (.aload_n 0, 1) := by decide +kernel
theorem dX12_about_34 : decode cX12_about 34 = .ok (.aload_n 0, 1) := by decide +kernel
theorem dX12_about_35 : decode cX12_about 35 = .ok (.getfield 198, 3) := by decide +kernel
theorem dX12_about_38 : decode cX12_about 38 = .ok (.invokevirtual 189, 3) := by decide +kernel
theorem dX12_about_41 : decode cX12_about 41 = .ok (.istore_n 3, 1) := by decide +kernel
theorem dX12_about_42 : decode cX12_about 42 = .ok (.iload_n 2, 1) := by decide +kernel
theorem dX12_about_43 : decode cX12_about 43 = .ok (.tableswitch 64 0 3 #[29, 32, 48, 56], 29) := by decide +kernel
theorem dX12_about_72 : decode cX12_about 72 = .ok (.iload_n 3, 1) := by decide +kernel
theorem dX12_about_73 : decode cX12_about 73 = .ok (.i2l, 1) := by decide +kernel
theorem dX12_about_74 : decode cX12_about 74 = .ok (.lreturn, 1) := by decide +kernel
theorem dX12_about_75 : decode cX12_about 75 = .ok (.aload_n 0, 1) := by decide +kernel
theorem dX12_about_76 : decode cX12_about 76 = .ok (.getfield 31, 3) := by decide +kernel
theorem dX12_about_79 : decode cX12_about 79 = .ok (.iload_n 3, 1) := by decide +kernel
theorem dX12_about_80 : decode cX12_about 80 = .ok (.iaload, 1) := by decide +kernel
theorem dX12_about_81 : decode cX12_about 81 = .ok (.iconst 2, 1) := by decide +kernel
theorem dX12_about_82 : decode cX12_about 82 = .ok (.if_icmp .ne 7, 3) := by decide +kernel
theorem dX12_about_85 : decode cX12_about 85 = .ok (.lconst 1, 1) := by decide +kernel
theorem dX12_about_86 : decode cX12_about 86 = .ok (.goto 4, 3) := by decide +kernel
theorem dX12_about_89 : decode cX12_about 89 = .ok (.lconst 0, 1) := by decide +kernel
theorem dX12_about_90 : decode cX12_about 90 = .ok (.lreturn, 1) := by decide +kernel
theorem dX12_about_91 : decode cX12_about 91 = .ok (.aload_n 0, 1) := by decide +kernel
theorem dX12_about_92 : decode cX12_about 92 = .ok (.getfield 34, 3) := by decide +kernel
theorem dX12_about_95 : decode cX12_about 95 = .ok (.iload_n 3, 1) := by decide +kernel
theorem dX12_about_96 : decode cX12_about 96 = .ok (.iaload, 1) := by decide +kernel
theorem dX12_about_97 : decode cX12_about 97 = .ok (.i2l, 1) := by decide +kernel
theorem dX12_about_98 : decode cX12_about 98 = .ok (.lreturn, 1) := by decide +kernel
theorem dX12_about_99 : decode cX12_about 99 = .ok (.aload_n 0, 1) := by decide +kernel
theorem dX12_about_100 : decode cX12_about 100 = .ok (.getfield 37, 3) := by decide +kernel
theorem dX12_about_103 : decode cX12_about 103 = .ok (.iload_n 3, 1) := by decide +kernel
theorem dX12_about_104 : decode cX12_about 104 = .ok (.iaload, 1) := by decide +kernel
theorem dX12_about_105 : decode cX12_about 105 = .ok (.i2l, 1) := by decide +kernel
theorem dX12_about_106 : decode cX12_about 106 = .ok (.lreturn, 1) := by decide +kernel
theorem dX12_about_107 : decode cX12_about 107 = .ok (.aload_n 0, 1) := by decide +kernel
theorem dX12_about_108 : decode cX12_about 108 = .ok (.getfield 61, 3) := by decide +kernel
theorem dX12_about_111 : decode cX12_about 111 = .ok (.iconst 3, 1) := by decide +kernel
theorem dX12_about_112 : decode cX12_about 112 = .ok (.iload_n 3, 1) := by decide +kernel
theorem dX12_about_113 : decode cX12_about 113 = .ok (.imul, 1) := by decide +kernel
theorem dX12_about_114 : decode cX12_about 114 = .ok (.iload_n 2, 1) := by decide +kernel
theorem dX12_about_115 : decode cX12_about 115 = .ok (.iadd, 1) := by decide +kernel
theorem dX12_about_116 : decode cX12_about 116 = .ok (.iconst 4, 1) := by decide +kernel
theorem dX12_about_117 : decode cX12_about 117 = .ok (.isub, 1) := by decide +kernel
theorem dX12_about_118 : decode cX12_about 118 = .ok (.laload, 1) := by decide +kernel
theorem dX12_about_119 : decode cX12_about 119 = .ok (.lreturn, 1) := by decide +kernel
theorem dX12_content_0 : decode cX12_content 0 = .ok (.aload_n 0, 1) := by decide +kernel
theorem dX12_content_1 : decode cX12_content 1 = .ok (.iload_n 1, 1) := by decide +kernel
theorem dX12_content_2 : decode cX12_content 2 = .ok (.invokevirtual 216, 3) := by decide +kernel
theorem dX12_content_5 : decode cX12_content 5 = .ok (.ifCond .eq 5, 3) := by decide +kernel
theorem dX12_content_8 : decode cX12_content 8 = .ok (.iconst 0, 1) := by decide +kernel
theorem dX12_content_9 : decode cX12_content 9 = .ok (.ireturn, 1) := by decide +kernel
theorem dX12_content_10 : decode cX12_content 10 = .ok (.aload_n 0, 1) := by decide +kernel
theorem dX12_content_11 : decode cX12_content 11 = .ok (.aload_n 0, 1) := by decide +kernel
theorem dX12_content_12 : decode cX12_content 12 = .ok (.getfield 198, 3) := by decide +kernel
theorem dX12_content_15 : decode cX12_content 15 = .ok (.invokevirtual 189, 3) := by decide +kernel
theorem dX12_content_18 : decode cX12_content 18 = .ok (.istore_n 3, 1) := by decide +kernel
theorem dX12_content_19 : decode cX12_content 19 = .ok (.aload_n 0, 1) := by decide +kernel
theorem dX12_content_20 : decode cX12_content 20 = .ok (.getfield 31, 3) := by decide +kernel
theorem dX12_content_23 : decode cX12_content 23 = .ok (.iload_n 3, 1) := by decide +kernel
theorem dX12_content_24 : decode cX12_content 24 = .ok (.iaload, 1) := by decide +kernel
theorem dX12_content_25 : decode cX12_content 25 = .ok (.iconst 2, 1) := by decide +kernel
theorem dX12_content_26 : decode cX12_content 26 = .ok (.if_icmp .eq 17, 3) := by decide +kernel
theorem dX12_content_29 : decode cX12_content 29 = .ok (.iload_n 2, 1) := by decide +kernel
theorem dX12_content_30 : decode cX12_content 30 = .ok (.ifCond .lt 13, 3) := by decide +kernel
theorem dX12_content_33 : decode cX12_content 33 = .ok (.iload_n 2, 1) := by decide +kernel
theorem dX12_content_34 : decode cX12_content 34 = .ok (.aload_n 0, 1) := by decide +kernel
theorem dX12_content_35 : decode cX12_content 35 = .ok (.getfield 34, 3) := by decide +kernel
theorem dX12_content_38 : decode cX12_content 38 = .ok (.iload_n 3, 1) := by decide +kernel
theorem dX12_content_39 : decode cX12_content 39 = .ok (.iaload, 1) := by decide +kernel
theorem dX12_content_40 : decode cX12_content 40 = .ok (.if_icmp .lt 7, 3) := by decide +kernel
theorem dX12_content_43 : decode cX12_content 43 = .ok (.iconst (-1), 1) := by decide +kernel
theorem dX12_content_44 : decode cX12_content 44 = .ok (.goto 27, 3) := by decide +kernel
theorem dX12_content_47 : decode cX12_content 47 = .ok (.aload_n 0, 1) := by decide +kernel
theorem dX12_content_48 : decode cX12_content 48 = .ok (.sipush 1024, 3) := by decide +kernel
theorem dX12_content_51 : decode cX12_content 51 = .ok (.aload_n 0, 1) := by decide +kernel
theorem dX12_content_52 : decode cX12_content 52 = .ok (.iload_n 3, 1) := by decide +kernel
theorem dX12_content_53 : decode cX12_content 53 = .ok (.iload_n 2, 1) := by decide +kernel
theorem dX12_content_54 : decode cX12_content 54 = .ok (.sipush 1024, 3) := by decide +kernel
theorem dX12_content_57 : decode cX12_content 57 = .ok (.idiv, 1) := by decide +kernel
theorem dX12_content_58 : decode cX12_content 58 = .ok (.invokevirtual 219, 3) := by decide +kernel
theorem dX12_content_61 : decode cX12_content 61 = .ok (.imul, 1) := by decide +kernel
theorem dX12_content_62 : decode cX12_content 62 = .ok (.iload_n 2, 1) := by decide +kernel
theorem dX12_content_63 : decode cX12_content 63 = .ok (.sipush 1024, 3) := by decide +kernel
theorem dX12_content_66 : decode cX12_content 66 = .ok (.irem, 1) := by decide +kernel
theorem dX12_content_67 : decode cX12_content 67 = .ok (.iadd, 1) := by decide +kernel
theorem dX12_content_68 : decode cX12_content 68 = .ok (.invokevirtual 102, 3) := by decide +kernel
theorem dX12_content_71 : decode cX12_content 71 = .ok (.ireturn, 1) := by decide +kernel
theorem dX12_blockOf_0 : decode cX12_blockOf 0 = .ok (.aload_n 0, 1) := by decide +kernel
theorem dX12_blockOf_1 : decode cX12_blockOf 1 = .ok (.getfield 43, 3) := by decide +kernel
theorem dX12_blockOf_4 : decode cX12_blockOf 4 = .ok (.iload_n 1, 1) := by decide +kernel
theorem dX12_blockOf_5 : decode cX12_blockOf 5 = .ok (.iaload, 1) := by decide +kernel
theorem dX12_blockOf_6 : decode cX12_blockOf 6 = .ok (.istore_n 3, 1) := by decide +kernel
theorem dX12_blockOf_7 : decode cX12_blockOf 7 = .ok (.iconst 0, 1) := by decide +kernel
theorem dX12_blockOf_8 : decode cX12_blockOf 8 = .ok (.istore 4, 2) := by decide +kernel
theorem dX12_blockOf_10 : decode cX12_blockOf 10 = .ok (.iload 4, 2) := by decide +kernel
theorem dX12_blockOf_12 : decode cX12_blockOf 12 = .ok (.iload_n 2, 1) := by decide +kernel
theorem dX12_blockOf_13 : decode cX12_blockOf 13 = .ok (.if_icmp .ge 16, 3) := by decide +kernel
theorem dX12_blockOf_16 : decode cX12_blockOf 16 = .ok (.aload_n 0, 1) := by decide +kernel
theorem dX12_blockOf_17 : decode cX12_blockOf 17 = .ok (.getfield 27, 3) := by decide +kernel
theorem dX12_blockOf_20 : decode cX12_blockOf 20 = .ok (.iload_n 3, 1) := by decide +kernel
theorem dX12_blockOf_21 : decode cX12_blockOf 21 = .ok (.iaload, 1) := by decide +kernel
theorem dX12_blockOf_22 : decode cX12_blockOf 22 = .ok (.istore_n 3, 1) := by decide +kernel
theorem dX12_blockOf_23 : decode cX12_blockOf 23 = .ok (.iinc 4 1, 3) := by decide +kernel
theorem dX12_blockOf_26 : decode cX12_blockOf 26 = .ok (.goto (-16), 3) := by decide +kernel
theorem dX12_blockOf_29 : decode cX12_blockOf 29 = .ok (.iload_n 3, 1) := by decide +kernel
theorem dX12_blockOf_30 : decode cX12_blockOf 30 = .ok (.ireturn, 1) := by decide +kernel
theorem dX12_enter_0 : decode cX12_enter 0 = .ok (.aload_n 0, 1) := by decide +kernel
theorem dX12_enter_1 : decode cX12_enter 1 = .ok (.iload_n 1, 1) := by decide +kernel
theorem dX12_enter_2 : decode cX12_enter 2 = .ok (.invokevirtual 216, 3) := by decide +kernel
theorem dX12_enter_5 : decode cX12_enter 5 = .ok (.ifCond .ne 33, 3) := by decide +kernel
theorem dX12_enter_8 : decode cX12_enter 8 = .ok (.aload_n 0, 1) := by decide +kernel
theorem dX12_enter_9 : decode cX12_enter 9 = .ok (.aload_n 0, 1) := by decide +kernel
theorem dX12_enter_10 : decode cX12_enter 10 = .ok (.getfield 31, 3) := by decide +kernel
theorem dX12_enter_13 : decode cX12_enter 13 = .ok (.aload_n 0, 1) := by decide +kernel
theorem dX12_enter_14 : decode cX12_enter 14 = .ok (.aload_n 0, 1) := by decide +kernel
theorem dX12_enter_15 : decode cX12_enter 15 = .ok (.getfield 198, 3) := by decide +kernel
theorem dX12_enter_18 : decode cX12_enter 18 = .ok (.invokevirtual 189, 3) := by decide +kernel
theorem dX12_enter_21 : decode cX12_enter 21 = .ok (.iaload, 1) := by decide +kernel
theorem dX12_enter_22 : decode cX12_enter 22 = .ok (.iconst 2, 1) := by decide +kernel
theorem dX12_enter_23 : decode cX12_enter 23 = .ok (.if_icmp .eq 7, 3) := by decide +kernel
theorem dX12_enter_26 : decode cX12_enter 26 = .ok (.iconst 1, 1) := by decide +kernel
theorem dX12_enter_27 : decode cX12_enter 27 = .ok (.goto 4, 3) := by decide +kernel
theorem dX12_enter_30 : decode cX12_enter 30 = .ok (.iconst 0, 1) := by decide +kernel
theorem dX12_enter_31 : decode cX12_enter 31 = .ok (.iconst 3, 1) := by decide +kernel
theorem dX12_enter_32 : decode cX12_enter 32 = .ok (.invokevirtual 205, 3) := by decide +kernel
theorem dX12_enter_35 : decode cX12_enter 35 = .ok (.ifCond .eq 5, 3) := by decide +kernel
theorem dX12_enter_38 : decode cX12_enter 38 = .ok (.iconst 0, 1) := by decide +kernel
theorem dX12_enter_39 : decode cX12_enter 39 = .ok (.ireturn, 1) := by decide +kernel
theorem dX12_enter_40 : decode cX12_enter 40 = .ok (.aload_n 0, 1) := by decide +kernel
theorem dX12_enter_41 : decode cX12_enter 41 = .ok (.aload_n 0, 1) := by decide +kernel
theorem dX12_enter_42 : decode cX12_enter 42 = .ok (.aload_n 0, 1) := by decide +kernel
theorem dX12_enter_43 : decode cX12_enter 43 = .ok (.getfield 198, 3) := by decide +kernel
theorem dX12_enter_46 : decode cX12_enter 46 = .ok (.invokevirtual 189, 3) := by decide +kernel
theorem dX12_enter_49 : decode cX12_enter 49 = .ok (.putfield 130, 3) := by decide +kernel
theorem dX12_enter_52 : decode cX12_enter 52 = .ok (.aload_n 0, 1) := by decide +kernel
theorem dX12_enter_53 : decode cX12_enter 53 = .ok (.aload_n 0, 1) := by decide +kernel
theorem dX12_enter_54 : decode cX12_enter 54 = .ok (.getfield 130, 3) := by decide +kernel
theorem dX12_enter_57 : decode cX12_enter 57 = .ok (.invokevirtual 213, 3) := by decide +kernel
theorem dX12_enter_60 : decode cX12_enter 60 = .ok (.ireturn, 1) := by decide +kernel
theorem dX12_up_0 : decode cX12_up 0 = .ok (.aload_n 0, 1) := by decide +kernel
theorem dX12_up_1 : decode cX12_up 1 = .ok (.invokevirtual 209, 3) := by decide +kernel
theorem dX12_up_4 : decode cX12_up 4 = .ok (.ifCond .ne 11, 3) := by decide +kernel
theorem dX12_up_7 : decode cX12_up 7 = .ok (.aload_n 0, 1) := by decide +kernel
theorem dX12_up_8 : decode cX12_up 8 = .ok (.getfield 130, 3) := by decide +kernel
theorem dX12_up_11 : decode cX12_up 11 = .ok (.iconst 2, 1) := by decide +kernel
theorem dX12_up_12 : decode cX12_up 12 = .ok (.if_icmp .ne 5, 3) := by decide +kernel
theorem dX12_up_15 : decode cX12_up 15 = .ok (.iconst 0, 1) := by decide +kernel
theorem dX12_up_16 : decode cX12_up 16 = .ok (.ireturn, 1) := by decide +kernel
theorem dX12_up_17 : decode cX12_up 17 = .ok (.aload_n 0, 1) := by decide +kernel
theorem dX12_up_18 : decode cX12_up 18 = .ok (.aload_n 0, 1) := by decide +kernel
theorem dX12_up_19 : decode cX12_up 19 = .ok (.getfield 58, 3) := by decide +kernel
theorem dX12_up_22 : decode cX12_up 22 = .ok (.aload_n 0, 1) := by decide +kernel
theorem dX12_up_23 : decode cX12_up 23 = .ok (.getfield 130, 3) := by decide +kernel
theorem dX12_up_26 : decode cX12_up 26 = .ok (.iaload, 1) := by decide +kernel
theorem dX12_up_27 : decode cX12_up 27 = .ok (.putfield 130, 3) := by decide +kernel
theorem dX12_up_30 : decode cX12_up 30 = .ok (.iconst 1, 1) := by decide +kernel
theorem dX12_up_31 : decode cX12_up 31 = .ok (.ireturn, 1) := by decide +kernel
theorem dX12_make_0 : decode cX12_make 0 = .ok (.aload_n 0, 1) := by decide +kernel
theorem dX12_make_1 : decode cX12_make 1 = .ok (.invokevirtual 209, 3) := by decide +kernel
theorem dX12_make_4 : decode cX12_make 4 = .ok (.istore_n 2, 1) := by decide +kernel
theorem dX12_make_5 : decode cX12_make 5 = .ok (.aload_n 0, 1) := by decide +kernel
theorem dX12_make_6 : decode cX12_make 6 = .ok (.invokevirtual 225, 3) := by decide +kernel
theorem dX12_make_9 : decode cX12_make 9 = .ok (.istore_n 3, 1) := by decide +kernel
theorem dX12_make_10 : decode cX12_make 10 = .ok (.iload_n 2, 1) := by decide +kernel
theorem dX12_make_11 : decode cX12_make 11 = .ok (.ifCond .ne 27, 3) := by decide +kernel
theorem dX12_make_14 : decode cX12_make 14 = .ok (.aload_n 0, 1) := by decide +kernel
theorem dX12_make_15 : decode cX12_make 15 = .ok (.iload_n 3, 1) := by decide +kernel
theorem dX12_make_16 : decode cX12_make 16 = .ok (.ifCond .eq 10, 3) := by decide +kernel
theorem dX12_make_19 : decode cX12_make 19 = .ok (.aload_n 0, 1) := by decide +kernel
theorem dX12_make_20 : decode cX12_make 20 = .ok (.invokevirtual 228, 3) := by decide +kernel
theorem dX12_make_23 : decode cX12_make 23 = .ok (.ifCond .eq 7, 3) := by decide +kernel
theorem dX12_make_26 : decode cX12_make 26 = .ok (.iconst 1, 1) := by decide +kernel
theorem dX12_make_27 : decode cX12_make 27 = .ok (.goto 4, 3) := by decide +kernel
theorem dX12_make_30 : decode cX12_make 30 = .ok (.iconst 0, 1) := by decide +kernel
theorem dX12_make_31 : decode cX12_make 31 = .ok (.iconst 2, 1) := by decide +kernel
theorem dX12_make_32 : decode cX12_make 32 = .ok (.invokevirtual 205, 3) := by decide +kernel
theorem dX12_make_35 : decode cX12_make 35 = .ok (.ifCond .eq 5, 3) := by decide +kernel
theorem dX12_make_38 : decode cX12_make 38 = .ok (.iconst 0, 1) := by decide +kernel
theorem dX12_make_39 : decode cX12_make 39 = .ok (.ireturn, 1) := by decide +kernel
theorem dX12_make_40 : decode cX12_make 40 = .ok (.aload_n 0, 1) := by decide +kernel
theorem dX12_make_41 : decode cX12_make 41 = .ok (.invokevirtual 231, 3) := by decide +kernel
theorem dX12_make_44 : decode cX12_make 44 = .ok (.istore 4, 2) := by decide +kernel
theorem dX12_make_46 : decode cX12_make 46 = .ok (.bipush 12, 2) := by decide +kernel
theorem dX12_make_48 : decode cX12_make 48 = .ok (.istore 5, 2) := by decide +kernel
theorem dX12_make_50 : decode cX12_make 50 = .ok (.iload 5, 2) := by decide +kernel
theorem dX12_make_52 : decode cX12_make 52 = .ok (.aload_n 0, 1) := by decide +kernel
theorem dX12_make_53 : decode cX12_make 53 = .ok (.getfield 81, 3) := by decide +kernel
theorem dX12_make_56 : decode cX12_make 56 = .ok (.aload_n 0, 1) := by decide +kernel
theorem dX12_make_57 : decode cX12_make 57 = .ok (.getfield 91, 3) := by decide +kernel
theorem dX12_make_60 : decode cX12_make 60 = .ok (.imul, 1) := by decide +kernel
theorem dX12_make_61 : decode cX12_make 61 = .ok (.if_icmp .gt 19, 3) := by decide +kernel
theorem dX12_make_64 : decode cX12_make 64 = .ok (.aload_n 0, 1) := by decide +kernel
theorem dX12_make_65 : decode cX12_make 65 = .ok (.getfield 31, 3) := by decide +kernel
theorem dX12_make_68 : decode cX12_make 68 = .ok (.iload 5, 2) := by decide +kernel
theorem dX12_make_70 : decode cX12_make 70 = .ok (.iaload, 1) := by decide +kernel
theorem dX12_make_71 : decode cX12_make 71 = .ok (.ifCond .eq 9, 3) := by decide +kernel
theorem dX12_make_74 : decode cX12_make 74 = .ok (.iinc 5 1, 3) := by decide +kernel
theorem dX12_make_77 : decode cX12_make 77 = .ok (.goto (-27), 3) := by decide +kernel
theorem dX12_make_80 : decode cX12_make 80 = .ok (.iload 4, 2) := by decide +kernel
theorem dX12_make_82 : decode cX12_make 82 = .ok (.ifCond .ne 33, 3) := by decide +kernel
theorem dX12_make_85 : decode cX12_make 85 = .ok (.aload_n 0, 1) := by decide +kernel
theorem dX12_make_86 : decode cX12_make 86 = .ok (.getfield 40, 3) := by decide +kernel
theorem dX12_make_89 : decode cX12_make 89 = .ok (.aload_n 0, 1) := by decide +kernel
theorem dX12_make_90 : decode cX12_make 90 = .ok (.getfield 130, 3) := by decide +kernel
theorem dX12_make_93 : decode cX12_make 93 = .ok (.iaload, 1) := by decide +kernel
theorem dX12_make_94 : decode cX12_make 94 = .ok (.iconst 1, 1) := by decide +kernel
theorem dX12_make_95 : decode cX12_make 95 = .ok (.iadd, 1) := by decide +kernel
theorem dX12_make_96 : decode cX12_make 96 = .ok (.invokestatic 161, 3) := by decide +kernel
theorem dX12_make_99 : decode cX12_make 99 = .ok (.aload_n 0, 1) := by decide +kernel
theorem dX12_make_100 : decode cX12_make 100 = .ok (.getfield 40, 3) := by decide +kernel
theorem dX12_make_103 : decode cX12_make 103 = .ok (.aload_n 0, 1) := by decide +kernel
theorem dX12_make_104 : decode cX12_make 104 = .ok (.getfield 130, 3) := by decide +kernel
theorem dX12_make_107 : decode cX12_make 107 = .ok (.iaload, 1) := by decide +kernel
theorem dX12_make_108 : decode cX12_make 108 = .ok (.invokestatic 161, 3) := by decide +kernel
theorem dX12_make_111 : decode cX12_make 111 = .ok (.isub, 1) := by decide +kernel
theorem dX12_make_112 : decode cX12_make 112 = .ok (.goto 4, 3) := by decide +kernel
theorem dX12_make_115 : decode cX12_make 115 = .ok (.iconst 0, 1) := by decide +kernel
theorem dX12_make_116 : decode cX12_make 116 = .ok (.iload_n 1, 1) := by decide +kernel
theorem dX12_make_117 : decode cX12_make 117 = .ok (.ifCond .eq 7, 3) := by decide +kernel
theorem dX12_make_120 : decode cX12_make 120 = .ok (.iconst 1, 1) := by decide +kernel
theorem dX12_make_121 : decode cX12_make 121 = .ok (.goto 4, 3) := by decide +kernel
theorem dX12_make_124 : decode cX12_make 124 = .ok (.iconst 0, 1) := by decide +kernel
theorem dX12_make_125 : decode cX12_make 125 = .ok (.iadd, 1) := by decide +kernel
theorem dX12_make_126 : decode cX12_make 126 = .ok (.istore 6, 2) := by decide +kernel
theorem dX12_make_128 : decode cX12_make 128 = .ok (.aload_n 0, 1) := by decide +kernel
theorem dX12_make_129 : decode cX12_make 129 = .ok (.iload 5, 2) := by decide +kernel
theorem dX12_make_131 : decode cX12_make 131 = .ok (.aload_n 0, 1) := by decide +kernel
theorem dX12_make_132 : decode cX12_make 132 = .ok (.getfield 81, 3) := by decide +kernel
theorem dX12_make_135 : decode cX12_make 135 = .ok (.aload_n 0, 1) := by decide +kernel
theorem dX12_make_136 : decode cX12_make 136 = .ok (.getfield 91, 3) := by decide +kernel
theorem dX12_make_139 : decode cX12_make 139 = .ok (.imul, 1) := by decide +kernel
theorem dX12_make_140 : decode cX12_make 140 = .ok (.if_icmp .gt 12, 3) := by decide +kernel
theorem dX12_make_143 : decode cX12_make 143 = .ok (.iload 6, 2) := by decide +kernel
theorem dX12_make_145 : decode cX12_make 145 = .ok (.aload_n 0, 1) := by decide +kernel
theorem dX12_make_146 : decode cX12_make 146 = .ok (.invokevirtual 140, 3) := by decide +kernel
theorem dX12_make_149 : decode cX12_make 149 = .ok (.if_icmp .le 7, 3) := by decide +kernel
theorem dX12_make_152 : decode cX12_make 152 = .ok (.iconst 1, 1) := by decide +kernel
theorem dX12_make_153 : decode cX12_make 153 = .ok (.goto 4, 3) := by decide +kernel
theorem dX12_make_156 : decode cX12_make 156 = .ok (.iconst 0, 1) := by decide +kernel
theorem dX12_make_157 : decode cX12_make 157 = .ok (.iconst 3, 1) := by decide +kernel
theorem dX12_make_158 : decode cX12_make 158 = .ok (.invokevirtual 205, 3) := by decide +kernel
theorem dX12_make_161 : decode cX12_make 161 = .ok (.ifCond .eq 5, 3) := by decide +kernel
theorem dX12_make_164 : decode cX12_make 164 = .ok (.iconst 0, 1) := by decide +kernel
theorem dX12_make_165 : decode cX12_make 165 = .ok (.ireturn, 1) := by decide +kernel
theorem dX12_make_166 : decode cX12_make 166 = .ok (.aload_n 0, 1) := by decide +kernel
theorem dX12_make_167 : decode cX12_make 167 = .ok (.getfield 31, 3) := by decide +kernel
theorem dX12_make_170 : decode cX12_make 170 = .ok (.iload 5, 2) := by decide +kernel
theorem dX12_make_172 : decode cX12_make 172 = .ok (.iload_n 1, 1) := by decide +kernel
theorem dX12_make_173 : decode cX12_make 173 = .ok (.ifCond .eq 7, 3) := by decide +kernel
theorem dX12_make_176 : decode cX12_make 176 = .ok (.iconst 2, 1) := by decide +kernel
theorem dX12_make_177 : decode cX12_make 177 = .ok (.goto 4, 3) := by decide +kernel
theorem dX12_make_180 : decode cX12_make 180 = .ok (.iconst 1, 1) := by decide +kernel
theorem dX12_make_181 : decode cX12_make 181 = .ok (.iastore, 1) := by decide +kernel
theorem dX12_make_182 : decode cX12_make 182 = .ok (.aload_n 0, 1) := by decide +kernel
theorem dX12_make_183 : decode cX12_make 183 = .ok (.iload 5, 2) := by decide +kernel
theorem dX12_make_185 : decode cX12_make 185 = .ok (.invokevirtual 123, 3) := by decide +kernel
theorem dX12_make_188 : decode cX12_make 188 = .ok (.aload_n 0, 1) := by decide +kernel
theorem dX12_make_189 : decode cX12_make 189 = .ok (.getfield 37, 3) := by decide +kernel
theorem dX12_make_192 : decode cX12_make 192 = .ok (.iload 5, 2) := by decide +kernel
theorem dX12_make_194 : decode cX12_make 194 = .ok (.iload_n 1, 1) := by decide +kernel
theorem dX12_make_195 : decode cX12_make 195 = .ok (.ifCond .eq 7, 3) := by decide +kernel
theorem dX12_make_198 : decode cX12_make 198 = .ok (.iconst 2, 1) := by decide +kernel
theorem dX12_make_199 : decode cX12_make 199 = .ok (.goto 4, 3) := by decide +kernel
theorem dX12_make_202 : decode cX12_make 202 = .ok (.iconst 1, 1) := by decide +kernel
theorem dX12_make_203 : decode cX12_make 203 = .ok (.iastore, 1) := by decide +kernel
theorem dX12_make_204 : decode cX12_make 204 = .ok (.aload_n 0, 1) := by decide +kernel
theorem dX12_make_205 : decode cX12_make 205 = .ok (.getfield 58, 3) := by decide +kernel
theorem dX12_make_208 : decode cX12_make 208 = .ok (.iload 5, 2) := by decide +kernel
theorem dX12_make_210 : decode cX12_make 210 = .ok (.aload_n 0, 1) := by decide +kernel
theorem dX12_make_211 : decode cX12_make 211 = .ok (.getfield 130, 3) := by decide +kernel
theorem dX12_make_214 : decode cX12_make 214 = .ok (.iastore, 1) := by decide +kernel
theorem dX12_make_215 : decode cX12_make 215 = .ok (.aload_n 0, 1) := by decide +kernel
theorem dX12_make_216 : decode cX12_make 216 = .ok (.getfield 198, 3) := by decide +kernel
theorem dX12_make_219 : decode cX12_make 219 = .ok (.istore 7, 2) := by decide +kernel
theorem dX12_make_221 : decode cX12_make 221 = .ok (.iload 4, 2) := by decide +kernel
theorem dX12_make_223 : decode cX12_make 223 = .ok (.ifCond .ne 62, 3) := by decide +kernel
theorem dX12_make_226 : decode cX12_make 226 = .ok (.aload_n 0, 1) := by decide +kernel
theorem dX12_make_227 : decode cX12_make 227 = .ok (.aload_n 0, 1) := by decide +kernel
theorem dX12_make_228 : decode cX12_make 228 = .ok (.getfield 130, 3) := by decide +kernel
theorem dX12_make_231 : decode cX12_make 231 = .ok (.invokevirtual 143, 3) := by decide +kernel
theorem dX12_make_234 : decode cX12_make 234 = .ok (.aload_n 0, 1) := by decide +kernel
theorem dX12_make_235 : decode cX12_make 235 = .ok (.getfield 34, 3) := by decide +kernel
theorem dX12_make_238 : decode cX12_make 238 = .ok (.aload_n 0, 1) := by decide +kernel
theorem dX12_make_239 : decode cX12_make 239 = .ok (.getfield 130, 3) := by decide +kernel
theorem dX12_make_242 : decode cX12_make 242 = .ok (.dup2, 1) := by decide +kernel
theorem dX12_make_243 : decode cX12_make 243 = .ok (.iaload, 1) := by decide +kernel
theorem dX12_make_244 : decode cX12_make 244 = .ok (.sipush 1024, 3) := by decide +kernel
theorem dX12_make_247 : decode cX12_make 247 = .ok (.iadd, 1) := by decide +kernel
theorem dX12_make_248 : decode cX12_make 248 = .ok (.iastore, 1) := by decide +kernel
theorem dX12_make_249 : decode cX12_make 249 = .ok (.sipush 1024, 3) := by decide +kernel
theorem dX12_make_252 : decode cX12_make 252 = .ok (.aload_n 0, 1) := by decide +kernel
theorem dX12_make_253 : decode cX12_make 253 = .ok (.getfield 46, 3) := by decide +kernel
theorem dX12_make_256 : decode cX12_make 256 = .ok (.aload_n 0, 1) := by decide +kernel
theorem dX12_make_257 : decode cX12_make 257 = .ok (.getfield 130, 3) := by decide +kernel
theorem dX12_make_260 : decode cX12_make 260 = .ok (.iaload, 1) := by decide +kernel
theorem dX12_make_261 : decode cX12_make 261 = .ok (.imul, 1) := by decide +kernel
theorem dX12_make_262 : decode cX12_make 262 = .ok (.istore 7, 2) := by decide +kernel
theorem dX12_make_264 : decode cX12_make 264 = .ok (.aload_n 0, 1) := by decide +kernel
theorem dX12_make_265 : decode cX12_make 265 = .ok (.iload 7, 2) := by decide +kernel
theorem dX12_make_267 : decode cX12_make 267 = .ok (.iload 5, 2) := by decide +kernel
theorem dX12_make_269 : decode cX12_make 269 = .ok (.sipush 1024, 3) := by decide +kernel
theorem dX12_make_272 : decode cX12_make 272 = .ok (.aload_n 0, 1) := by decide +kernel
theorem dX12_make_273 : decode cX12_make 273 = .ok (.getfield 31, 3) := by decide +kernel
theorem dX12_make_276 : decode cX12_make 276 = .ok (.iload 5, 2) := by decide +kernel
theorem dX12_make_278 : decode cX12_make 278 = .ok (.iaload, 1) := by decide +kernel
theorem dX12_make_279 : decode cX12_make 279 = .ok (.invokevirtual 146, 3) := by decide +kernel
theorem dX12_make_282 : decode cX12_make 282 = .ok (.goto 69, 3) := by decide +kernel
theorem dX12_make_285 : decode cX12_make 285 = .ok (.aload_n 0, 1) := by decide +kernel
theorem dX12_make_286 : decode cX12_make 286 = .ok (.iload 7, 2) := by decide +kernel
theorem dX12_make_288 : decode cX12_make 288 = .ok (.iconst 4, 1) := by decide +kernel
theorem dX12_make_289 : decode cX12_make 289 = .ok (.iadd, 1) := by decide +kernel
theorem dX12_make_290 : decode cX12_make 290 = .ok (.invokevirtual 105, 3) := by decide +kernel
theorem dX12_make_293 : decode cX12_make 293 = .ok (.aload_n 0, 1) := by decide +kernel
theorem dX12_make_294 : decode cX12_make 294 = .ok (.iload 7, 2) := by decide +kernel
theorem dX12_make_296 : decode cX12_make 296 = .ok (.invokevirtual 222, 3) := by decide +kernel
theorem dX12_make_299 : decode cX12_make 299 = .ok (.isub, 1) := by decide +kernel
theorem dX12_make_300 : decode cX12_make 300 = .ok (.istore 8, 2) := by decide +kernel
theorem dX12_make_302 : decode cX12_make 302 = .ok (.aload_n 0, 1) := by decide +kernel
theorem dX12_make_303 : decode cX12_make 303 = .ok (.iload 7, 2) := by decide +kernel
theorem dX12_make_305 : decode cX12_make 305 = .ok (.invokevirtual 222, 3) := by decide +kernel
theorem dX12_make_308 : decode cX12_make 308 = .ok (.istore 9, 2) := by decide +kernel
theorem dX12_make_310 : decode cX12_make 310 = .ok (.iload 4, 2) := by decide +kernel
theorem dX12_make_312 : decode cX12_make 312 = .ok (.iconst 1, 1) := by decide +kernel
theorem dX12_make_313 : decode cX12_make 313 = .ok (.if_icmp .ne 14, 3) := by decide +kernel
theorem dX12_make_316 : decode cX12_make 316 = .ok (.aload_n 0, 1) := by decide +kernel
theorem dX12_make_317 : decode cX12_make 317 = .ok (.iload 7, 2) := by decide +kernel
theorem dX12_make_319 : decode cX12_make 319 = .ok (.iconst 4, 1) := by decide +kernel
theorem dX12_make_320 : decode cX12_make 320 = .ok (.iadd, 1) := by decide +kernel
theorem dX12_make_321 : decode cX12_make 321 = .ok (.iconst 2, 1) := by decide +kernel
theorem dX12_make_322 : decode cX12_make 322 = .ok (.iload 9, 2) := by decide +kernel
theorem dX12_make_324 : decode cX12_make 324 = .ok (.invokevirtual 112, 3) := by decide +kernel
theorem dX12_make_327 : decode cX12_make 327 = .ok (.iload 7, 2) := by decide +kernel
theorem dX12_make_329 : decode cX12_make 329 = .ok (.iload 9, 2) := by decide +kernel
theorem dX12_make_331 : decode cX12_make 331 = .ok (.iadd, 1) := by decide +kernel
theorem dX12_make_332 : decode cX12_make 332 = .ok (.istore 7, 2) := by decide +kernel
theorem dX12_make_334 : decode cX12_make 334 = .ok (.aload_n 0, 1) := by decide +kernel
theorem dX12_make_335 : decode cX12_make 335 = .ok (.iload 7, 2) := by decide +kernel
theorem dX12_make_337 : decode cX12_make 337 = .ok (.iload 5, 2) := by decide +kernel
theorem dX12_make_339 : decode cX12_make 339 = .ok (.iload 8, 2) := by decide +kernel
theorem dX12_make_341 : decode cX12_make 341 = .ok (.aload_n 0, 1) := by decide +kernel
theorem dX12_make_342 : decode cX12_make 342 = .ok (.getfield 31, 3) := by decide +kernel
theorem dX12_make_345 : decode cX12_make 345 = .ok (.iload 5, 2) := by decide +kernel
theorem dX12_make_347 : decode cX12_make 347 = .ok (.iaload, 1) := by decide +kernel
theorem dX12_make_348 : decode cX12_make 348 = .ok (.invokevirtual 146, 3) := by decide +kernel
theorem dX12_make_351 : decode cX12_make 351 = .ok (.iload_n 1, 1) := by decide +kernel
theorem dX12_make_352 : decode cX12_make 352 = .ok (.ifCond .eq 22, 3) := by decide +kernel
theorem dX12_make_355 : decode cX12_make 355 = .ok (.aload_n 0, 1) := by decide +kernel
theorem dX12_make_356 : decode cX12_make 356 = .ok (.iload 5, 2) := by decide +kernel
theorem dX12_make_358 : decode cX12_make 358 = .ok (.invokevirtual 127, 3) := by decide +kernel
theorem dX12_make_361 : decode cX12_make 361 = .ok (.aload_n 0, 1) := by decide +kernel
theorem dX12_make_362 : decode cX12_make 362 = .ok (.getfield 37, 3) := by decide +kernel
theorem dX12_make_365 : decode cX12_make 365 = .ok (.aload_n 0, 1) := by decide +kernel
theorem dX12_make_366 : decode cX12_make 366 = .ok (.getfield 130, 3) := by decide +kernel
theorem dX12_make_369 : decode cX12_make 369 = .ok (.dup2, 1) := by decide +kernel
theorem dX12_make_370 : decode cX12_make 370 = .ok (.iaload, 1) := by decide +kernel
theorem dX12_make_371 : decode cX12_make 371 = .ok (.iconst 1, 1) := by decide +kernel
theorem dX12_make_372 : decode cX12_make 372 = .ok (.iadd, 1) := by decide +kernel
theorem dX12_make_373 : decode cX12_make 373 = .ok (.iastore, 1) := by decide +kernel
theorem dX12_make_374 : decode cX12_make 374 = .ok (.aload_n 0, 1) := by decide +kernel
theorem dX12_make_375 : decode cX12_make 375 = .ok (.iconst 0, 1) := by decide +kernel
theorem dX12_make_376 : decode cX12_make 376 = .ok (.putfield 137, 3) := by decide +kernel
theorem dX12_make_379 : decode cX12_make 379 = .ok (.iconst 0, 1) := by decide +kernel
theorem dX12_make_380 : decode cX12_make 380 = .ok (.istore 8, 2) := by decide +kernel
theorem dX12_make_382 : decode cX12_make 382 = .ok (.aload_n 0, 1) := by decide +kernel
theorem dX12_make_383 : decode cX12_make 383 = .ok (.aload_n 0, 1) := by decide +kernel
theorem dX12_make_384 : decode cX12_make 384 = .ok (.getfield 130, 3) := by decide +kernel
theorem dX12_make_387 : decode cX12_make 387 = .ok (.iload 8, 2) := by decide +kernel
theorem dX12_make_389 : decode cX12_make 389 = .ok (.invokevirtual 201, 3) := by decide +kernel
theorem dX12_make_392 : decode cX12_make 392 = .ok (.ifCond .eq 18, 3) := by decide +kernel
theorem dX12_make_395 : decode cX12_make 395 = .ok (.aload_n 0, 1) := by decide +kernel
theorem dX12_make_396 : decode cX12_make 396 = .ok (.getfield 198, 3) := by decide +kernel
theorem dX12_make_399 : decode cX12_make 399 = .ok (.iload 7, 2) := by decide +kernel
theorem dX12_make_401 : decode cX12_make 401 = .ok (.if_icmp .eq 9, 3) := by decide +kernel
theorem dX12_make_404 : decode cX12_make 404 = .ok (.iinc 8 1, 3) := by decide +kernel
theorem dX12_make_407 : decode cX12_make 407 = .ok (.goto (-25), 3) := by decide +kernel
theorem dX12_make_410 : decode cX12_make 410 = .ok (.iload 8, 2) := by decide +kernel
theorem dX12_make_412 : decode cX12_make 412 = .ok (.ireturn, 1) := by decide +kernel
theorem dX12_named_0 : decode cX12_named 0 = .ok (.aload_n 0, 1) := by decide +kernel
theorem dX12_named_1 : decode cX12_named 1 = .ok (.aload_n 0, 1) := by decide +kernel
theorem dX12_named_2 : decode cX12_named 2 = .ok (.getfield 75, 3) := by decide +kernel
theorem dX12_named_5 : decode cX12_named 5 = .ok (.sipush 255, 3) := by decide +kernel
theorem dX12_named_8 : decode cX12_named 8 = .ok (.if_icmp .le 7, 3) := by decide +kernel
theorem dX12_named_11 : decode cX12_named 11 = .ok (.iconst 0, 1) := by decide +kernel
theorem dX12_named_12 : decode cX12_named 12 = .ok (.goto 7, 3) := by decide +kernel
theorem dX12_named_15 : decode cX12_named 15 = .ok (.aload_n 0, 1) := by decide +kernel
theorem dX12_named_16 : decode cX12_named 16 = .ok (.getfield 75, 3) := by decide +kernel
theorem dX12_named_19 : decode cX12_named 19 = .ok (.putfield 109, 3) := by decide +kernel
theorem dX12_named_22 : decode cX12_named 22 = .ok (.aload_n 0, 1) := by decide +kernel
theorem dX12_named_23 : decode cX12_named 23 = .ok (.getfield 109, 3) := by decide +kernel
theorem dX12_named_26 : decode cX12_named 26 = .ok (.ifCond .le 7, 3) := by decide +kernel
theorem dX12_named_29 : decode cX12_named 29 = .ok (.iconst 1, 1) := by decide +kernel
theorem dX12_named_30 : decode cX12_named 30 = .ok (.goto 4, 3) := by decide +kernel
theorem dX12_named_33 : decode cX12_named 33 = .ok (.iconst 0, 1) := by decide +kernel
theorem dX12_named_34 : decode cX12_named 34 = .ok (.istore_n 1, 1) := by decide +kernel
theorem dX12_named_35 : decode cX12_named 35 = .ok (.iconst 0, 1) := by decide +kernel
theorem dX12_named_36 : decode cX12_named 36 = .ok (.istore_n 2, 1) := by decide +kernel
theorem dX12_named_37 : decode cX12_named 37 = .ok (.iload_n 2, 1) := by decide +kernel
theorem dX12_named_38 : decode cX12_named 38 = .ok (.aload_n 0, 1) := by decide +kernel
theorem dX12_named_39 : decode cX12_named 39 = .ok (.getfield 109, 3) := by decide +kernel
theorem dX12_named_42 : decode cX12_named 42 = .ok (.if_icmp .ge 55, 3) := by decide +kernel
theorem dX12_named_45 : decode cX12_named 45 = .ok (.aload_n 0, 1) := by decide +kernel
theorem dX12_named_46 : decode cX12_named 46 = .ok (.getfield 65, 3) := by decide +kernel
theorem dX12_named_49 : decode cX12_named 49 = .ok (.iload_n 2, 1) := by decide +kernel
theorem dX12_named_50 : decode cX12_named 50 = .ok (.aload_n 0, 1) := by decide +kernel
theorem dX12_named_51 : decode cX12_named 51 = .ok (.getfield 17, 3) := by decide +kernel
theorem dX12_named_54 : decode cX12_named 54 = .ok (.iload_n 2, 1) := by decide +kernel
theorem dX12_named_55 : decode cX12_named 55 = .ok (.baload, 1) := by decide +kernel
theorem dX12_named_56 : decode cX12_named 56 = .ok (.sipush 255, 3) := by decide +kernel
theorem dX12_named_59 : decode cX12_named 59 = .ok (.iand, 1) := by decide +kernel
theorem dX12_named_60 : decode cX12_named 60 = .ok (.iastore, 1) := by decide +kernel
theorem dX12_named_61 : decode cX12_named 61 = .ok (.iload_n 1, 1) := by decide +kernel
theorem dX12_named_62 : decode cX12_named 62 = .ok (.ifCond .eq 27, 3) := by decide +kernel
theorem dX12_named_65 : decode cX12_named 65 = .ok (.aload_n 0, 1) := by decide +kernel
theorem dX12_named_66 : decode cX12_named 66 = .ok (.getfield 65, 3) := by decide +kernel
theorem dX12_named_69 : decode cX12_named 69 = .ok (.iload_n 2, 1) := by decide +kernel
theorem dX12_named_70 : decode cX12_named 70 = .ok (.iaload, 1) := by decide +kernel
theorem dX12_named_71 : decode cX12_named 71 = .ok (.ifCond .eq 18, 3) := by decide +kernel
theorem dX12_named_74 : decode cX12_named 74 = .ok (.aload_n 0, 1) := by decide +kernel
theorem dX12_named_75 : decode cX12_named 75 = .ok (.getfield 65, 3) := by decide +kernel
theorem dX12_named_78 : decode cX12_named 78 = .ok (.iload_n 2, 1) := by decide +kernel
theorem dX12_named_79 : decode cX12_named 79 = .ok (.iaload, 1) := by decide +kernel
theorem dX12_named_80 : decode cX12_named 80 = .ok (.bipush 47, 2) := by decide +kernel
theorem dX12_named_82 : decode cX12_named 82 = .ok (.if_icmp .eq 7, 3) := by decide +kernel
theorem dX12_named_85 : decode cX12_named 85 = .ok (.iconst 1, 1) := by decide +kernel
theorem dX12_named_86 : decode cX12_named 86 = .ok (.goto 4, 3) := by decide +kernel
theorem dX12_named_89 : decode cX12_named 89 = .ok (.iconst 0, 1) := by decide +kernel
theorem dX12_named_90 : decode cX12_named 90 = .ok (.istore_n 1, 1) := by decide +kernel
theorem dX12_named_91 : decode cX12_named 91 = .ok (.iinc 2 1, 3) := by decide +kernel
theorem dX12_named_94 : decode cX12_named 94 = .ok (.goto (-57), 3) := by decide +kernel
theorem dX12_named_97 : decode cX12_named 97 = .ok (.aload_n 0, 1) := by decide +kernel
theorem dX12_named_98 : decode cX12_named 98 = .ok (.iconst 0, 1) := by decide +kernel
theorem dX12_named_99 : decode cX12_named 99 = .ok (.putfield 75, 3) := by decide +kernel
theorem dX12_named_102 : decode cX12_named 102 = .ok (.iload_n 1, 1) := by decide +kernel
theorem dX12_named_103 : decode cX12_named 103 = .ok (.ifCond .eq 45, 3) := by decide +kernel
theorem dX12_named_106 : decode cX12_named 106 = .ok (.aload_n 0, 1) := by decide +kernel
theorem dX12_named_107 : decode cX12_named 107 = .ok (.getfield 65, 3) := by decide +kernel
theorem dX12_named_110 : decode cX12_named 110 = .ok (.iconst 0, 1) := by decide +kernel
theorem dX12_named_111 : decode cX12_named 111 = .ok (.iaload, 1) := by decide +kernel
theorem dX12_named_112 : decode cX12_named 112 = .ok (.bipush 46, 2) := by decide +kernel
theorem dX12_named_114 : decode cX12_named 114 = .ok (.if_icmp .ne 30, 3) := by decide +kernel
theorem dX12_named_117 : decode cX12_named 117 = .ok (.aload_n 0, 1) := by decide +kernel
theorem dX12_named_118 : decode cX12_named 118 = .ok (.getfield 109, 3) := by decide +kernel
theorem dX12_named_121 : decode cX12_named 121 = .ok (.iconst 1, 1) := by decide +kernel
theorem dX12_named_122 : decode cX12_named 122 = .ok (.if_icmp .eq 26, 3) := by decide +kernel
theorem dX12_named_125 : decode cX12_named 125 = .ok (.aload_n 0, 1) := by decide +kernel
theorem dX12_named_126 : decode cX12_named 126 = .ok (.getfield 109, 3) := by decide +kernel
theorem dX12_named_129 : decode cX12_named 129 = .ok (.iconst 2, 1) := by decide +kernel
theorem dX12_named_130 : decode cX12_named 130 = .ok (.if_icmp .ne 14, 3) := by decide +kernel
theorem dX12_named_133 : decode cX12_named 133 = .ok (.aload_n 0, 1) := by decide +kernel
theorem dX12_named_134 : decode cX12_named 134 = .ok (.getfield 65, 3) := by decide +kernel
theorem dX12_named_137 : decode cX12_named 137 = .ok (.iconst 1, 1) := by decide +kernel
theorem dX12_named_138 : decode cX12_named 138 = .ok (.iaload, 1) := by decide +kernel
theorem dX12_named_139 : decode cX12_named 139 = .ok (.bipush 46, 2) := by decide +kernel
theorem dX12_named_141 : decode cX12_named 141 = .ok (.if_icmp .eq 7, 3) := by decide +kernel
theorem dX12_named_144 : decode cX12_named 144 = .ok (.iconst 1, 1) := by decide +kernel
theorem dX12_named_145 : decode cX12_named 145 = .ok (.goto 4, 3) := by decide +kernel
theorem dX12_named_148 : decode cX12_named 148 = .ok (.iconst 0, 1) := by decide +kernel
theorem dX12_named_149 : decode cX12_named 149 = .ok (.ireturn, 1) := by decide +kernel
theorem dX12_isTaken_0 : decode cX12_isTaken 0 = .ok (.iconst 0, 1) := by decide +kernel
theorem dX12_isTaken_1 : decode cX12_isTaken 1 = .ok (.istore_n 1, 1) := by decide +kernel
theorem dX12_isTaken_2 : decode cX12_isTaken 2 = .ok (.iconst 0, 1) := by decide +kernel
theorem dX12_isTaken_3 : decode cX12_isTaken 3 = .ok (.istore_n 2, 1) := by decide +kernel
theorem dX12_isTaken_4 : decode cX12_isTaken 4 = .ok (.iload_n 1, 1) := by decide +kernel
theorem dX12_isTaken_5 : decode cX12_isTaken 5 = .ok (.ifCond .ne 93, 3) := by decide +kernel
theorem dX12_isTaken_8 : decode cX12_isTaken 8 = .ok (.aload_n 0, 1) := by decide +kernel
theorem dX12_isTaken_9 : decode cX12_isTaken 9 = .ok (.aload_n 0, 1) := by decide +kernel
theorem dX12_isTaken_10 : decode cX12_isTaken 10 = .ok (.getfield 130, 3) := by decide +kernel
theorem dX12_isTaken_13 : decode cX12_isTaken 13 = .ok (.iload_n 2, 1) := by decide +kernel
theorem dX12_isTaken_14 : decode cX12_isTaken 14 = .ok (.invokevirtual 201, 3) := by decide +kernel
theorem dX12_isTaken_17 : decode cX12_isTaken 17 = .ok (.ifCond .eq 81, 3) := by decide +kernel
theorem dX12_isTaken_20 : decode cX12_isTaken 20 = .ok (.aload_n 0, 1) := by decide +kernel
theorem dX12_isTaken_21 : decode cX12_isTaken 21 = .ok (.aload_n 0, 1) := by decide +kernel
theorem dX12_isTaken_22 : decode cX12_isTaken 22 = .ok (.getfield 198, 3) := by decide +kernel
theorem dX12_isTaken_25 : decode cX12_isTaken 25 = .ok (.bipush 6, 2) := by decide +kernel
theorem dX12_isTaken_27 : decode cX12_isTaken 27 = .ok (.iadd, 1) := by decide +kernel
theorem dX12_isTaken_28 : decode cX12_isTaken 28 = .ok (.invokevirtual 102, 3) := by decide +kernel
theorem dX12_isTaken_31 : decode cX12_isTaken 31 = .ok (.aload_n 0, 1) := by decide +kernel
theorem dX12_isTaken_32 : decode cX12_isTaken 32 = .ok (.getfield 109, 3) := by decide +kernel
theorem dX12_isTaken_35 : decode cX12_isTaken 35 = .ok (.if_icmp .ne 7, 3) := by decide +kernel
theorem dX12_isTaken_38 : decode cX12_isTaken 38 = .ok (.iconst 1, 1) := by decide +kernel
theorem dX12_isTaken_39 : decode cX12_isTaken 39 = .ok (.goto 4, 3) := by decide +kernel
theorem dX12_isTaken_42 : decode cX12_isTaken 42 = .ok (.iconst 0, 1) := by decide +kernel
theorem dX12_isTaken_43 : decode cX12_isTaken 43 = .ok (.istore_n 1, 1) := by decide +kernel
theorem dX12_isTaken_44 : decode cX12_isTaken 44 = .ok (.iconst 0, 1) := by decide +kernel
theorem dX12_isTaken_45 : decode cX12_isTaken 45 = .ok (.istore_n 3, 1) := by decide +kernel
theorem dX12_isTaken_46 : decode cX12_isTaken 46 = .ok (.iload_n 3, 1) := by decide +kernel
theorem dX12_isTaken_47 : decode cX12_isTaken 47 = .ok (.aload_n 0, 1) := by decide +kernel
theorem dX12_isTaken_48 : decode cX12_isTaken 48 = .ok (.getfield 109, 3) := by decide +kernel
theorem dX12_isTaken_51 : decode cX12_isTaken 51 = .ok (.if_icmp .ge 41, 3) := by decide +kernel
theorem dX12_isTaken_54 : decode cX12_isTaken 54 = .ok (.iload_n 1, 1) := by decide +kernel
theorem dX12_isTaken_55 : decode cX12_isTaken 55 = .ok (.ifCond .eq 37, 3) := by decide +kernel
theorem dX12_isTaken_58 : decode cX12_isTaken 58 = .ok (.aload_n 0, 1) := by decide +kernel
theorem dX12_isTaken_59 : decode cX12_isTaken 59 = .ok (.aload_n 0, 1) := by decide +kernel
theorem dX12_isTaken_60 : decode cX12_isTaken 60 = .ok (.getfield 198, 3) := by decide +kernel
theorem dX12_isTaken_63 : decode cX12_isTaken 63 = .ok (.bipush 8, 2) := by decide +kernel
theorem dX12_isTaken_65 : decode cX12_isTaken 65 = .ok (.iadd, 1) := by decide +kernel
theorem dX12_isTaken_66 : decode cX12_isTaken 66 = .ok (.iload_n 3, 1) := by decide +kernel
theorem dX12_isTaken_67 : decode cX12_isTaken 67 = .ok (.iadd, 1) := by decide +kernel
theorem dX12_isTaken_68 : decode cX12_isTaken 68 = .ok (.invokevirtual 102, 3) := by decide +kernel
theorem dX12_isTaken_71 : decode cX12_isTaken 71 = .ok (.aload_n 0, 1) := by decide +kernel
theorem dX12_isTaken_72 : decode cX12_isTaken 72 = .ok (.getfield 65, 3) := by decide +kernel
theorem dX12_isTaken_75 : decode cX12_isTaken 75 = .ok (.iload_n 3, 1) := by decide +kernel
theorem dX12_isTaken_76 : decode cX12_isTaken 76 = .ok (.iaload, 1) := by decide +kernel
theorem dX12_isTaken_77 : decode cX12_isTaken 77 = .ok (.if_icmp .ne 7, 3) := by decide +kernel
theorem dX12_isTaken_80 : decode cX12_isTaken 80 = .ok (.iconst 1, 1) := by decide +kernel
theorem dX12_isTaken_81 : decode cX12_isTaken 81 = .ok (.goto 4, 3) := by decide +kernel
theorem dX12_isTaken_84 : decode cX12_isTaken 84 = .ok (.iconst 0, 1) := by decide +kernel
theorem dX12_isTaken_85 : decode cX12_isTaken 85 = .ok (.istore_n 1, 1) := by decide +kernel
theorem dX12_isTaken_86 : decode cX12_isTaken 86 = .ok (.iinc 3 1, 3) := by decide +kernel
theorem dX12_isTaken_89 : decode cX12_isTaken 89 = .ok (.goto (-43), 3) := by decide +kernel
theorem dX12_isTaken_92 : decode cX12_isTaken 92 = .ok (.iinc 2 1, 3) := by decide +kernel
theorem dX12_isTaken_95 : decode cX12_isTaken 95 = .ok (.goto (-91), 3) := by decide +kernel
theorem dX12_isTaken_98 : decode cX12_isTaken 98 = .ok (.iload_n 1, 1) := by decide +kernel
theorem dX12_isTaken_99 : decode cX12_isTaken 99 = .ok (.ireturn, 1) := by decide +kernel
theorem dX12_spot_0 : decode cX12_spot 0 = .ok (.bipush 8, 2) := by decide +kernel
theorem dX12_spot_2 : decode cX12_spot 2 = .ok (.aload_n 0, 1) := by decide +kernel
theorem dX12_spot_3 : decode cX12_spot 3 = .ok (.getfield 109, 3) := by decide +kernel
theorem dX12_spot_6 : decode cX12_spot 6 = .ok (.iconst 4, 1) := by decide +kernel
theorem dX12_spot_7 : decode cX12_spot 7 = .ok (.invokestatic 94, 3) := by decide +kernel
theorem dX12_spot_10 : decode cX12_spot 10 = .ok (.iconst 4, 1) := by decide +kernel
theorem dX12_spot_11 : decode cX12_spot 11 = .ok (.imul, 1) := by decide +kernel
theorem dX12_spot_12 : decode cX12_spot 12 = .ok (.iadd, 1) := by decide +kernel
theorem dX12_spot_13 : decode cX12_spot 13 = .ok (.istore_n 1, 1) := by decide +kernel
theorem dX12_spot_14 : decode cX12_spot 14 = .ok (.aload_n 0, 1) := by decide +kernel
theorem dX12_spot_15 : decode cX12_spot 15 = .ok (.getfield 43, 3) := by decide +kernel
theorem dX12_spot_18 : decode cX12_spot 18 = .ok (.aload_n 0, 1) := by decide +kernel
theorem dX12_spot_19 : decode cX12_spot 19 = .ok (.getfield 130, 3) := by decide +kernel
theorem dX12_spot_22 : decode cX12_spot 22 = .ok (.iaload, 1) := by decide +kernel
theorem dX12_spot_23 : decode cX12_spot 23 = .ok (.istore_n 2, 1) := by decide +kernel
theorem dX12_spot_24 : decode cX12_spot 24 = .ok (.iconst 0, 1) := by decide +kernel
theorem dX12_spot_25 : decode cX12_spot 25 = .ok (.istore_n 3, 1) := by decide +kernel
theorem dX12_spot_26 : decode cX12_spot 26 = .ok (.iload_n 3, 1) := by decide +kernel
theorem dX12_spot_27 : decode cX12_spot 27 = .ok (.aload_n 0, 1) := by decide +kernel
theorem dX12_spot_28 : decode cX12_spot 28 = .ok (.getfield 40, 3) := by decide +kernel
theorem dX12_spot_31 : decode cX12_spot 31 = .ok (.aload_n 0, 1) := by decide +kernel
theorem dX12_spot_32 : decode cX12_spot 32 = .ok (.getfield 130, 3) := by decide +kernel
theorem dX12_spot_35 : decode cX12_spot 35 = .ok (.iaload, 1) := by decide +kernel
theorem dX12_spot_36 : decode cX12_spot 36 = .ok (.if_icmp .ge 93, 3) := by decide +kernel
theorem dX12_spot_39 : decode cX12_spot 39 = .ok (.sipush 1024, 3) := by decide +kernel
theorem dX12_spot_42 : decode cX12_spot 42 = .ok (.iload_n 2, 1) := by decide +kernel
theorem dX12_spot_43 : decode cX12_spot 43 = .ok (.imul, 1) := by decide +kernel
theorem dX12_spot_44 : decode cX12_spot 44 = .ok (.istore 4, 2) := by decide +kernel
theorem dX12_spot_46 : decode cX12_spot 46 = .ok (.iload 4, 2) := by decide +kernel
theorem dX12_spot_48 : decode cX12_spot 48 = .ok (.sipush 1024, 3) := by decide +kernel
theorem dX12_spot_51 : decode cX12_spot 51 = .ok (.iload_n 2, 1) := by decide +kernel
theorem dX12_spot_52 : decode cX12_spot 52 = .ok (.imul, 1) := by decide +kernel
theorem dX12_spot_53 : decode cX12_spot 53 = .ok (.sipush 1024, 3) := by decide +kernel
theorem dX12_spot_56 : decode cX12_spot 56 = .ok (.iadd, 1) := by decide +kernel
theorem dX12_spot_57 : decode cX12_spot 57 = .ok (.if_icmp .ge 59, 3) := by decide +kernel
theorem dX12_spot_60 : decode cX12_spot 60 = .ok (.aload_n 0, 1) := by decide +kernel
theorem dX12_spot_61 : decode cX12_spot 61 = .ok (.iload 4, 2) := by decide +kernel
theorem dX12_spot_63 : decode cX12_spot 63 = .ok (.putfield 198, 3) := by decide +kernel
theorem dX12_spot_66 : decode cX12_spot 66 = .ok (.aload_n 0, 1) := by decide +kernel
theorem dX12_spot_67 : decode cX12_spot 67 = .ok (.iload 4, 2) := by decide +kernel
theorem dX12_spot_69 : decode cX12_spot 69 = .ok (.iconst 4, 1) := by decide +kernel
theorem dX12_spot_70 : decode cX12_spot 70 = .ok (.iadd, 1) := by decide +kernel
theorem dX12_spot_71 : decode cX12_spot 71 = .ok (.invokevirtual 105, 3) := by decide +kernel
theorem dX12_spot_74 : decode cX12_spot 74 = .ok (.aload_n 0, 1) := by decide +kernel
theorem dX12_spot_75 : decode cX12_spot 75 = .ok (.iload 4, 2) := by decide +kernel
theorem dX12_spot_77 : decode cX12_spot 77 = .ok (.invokevirtual 222, 3) := by decide +kernel
theorem dX12_spot_80 : decode cX12_spot 80 = .ok (.isub, 1) := by decide +kernel
theorem dX12_spot_81 : decode cX12_spot 81 = .ok (.iload_n 1, 1) := by decide +kernel
theorem dX12_spot_82 : decode cX12_spot 82 = .ok (.if_icmp .lt 18, 3) := by decide +kernel
theorem dX12_spot_85 : decode cX12_spot 85 = .ok (.aload_n 0, 1) := by decide +kernel
theorem dX12_spot_86 : decode cX12_spot 86 = .ok (.iload 4, 2) := by decide +kernel
theorem dX12_spot_88 : decode cX12_spot 88 = .ok (.invokevirtual 222, 3) := by decide +kernel
theorem dX12_spot_91 : decode cX12_spot 91 = .ok (.ifCond .ne 7, 3) := by decide +kernel
theorem dX12_spot_94 : decode cX12_spot 94 = .ok (.iconst 2, 1) := by decide +kernel
theorem dX12_spot_95 : decode cX12_spot 95 = .ok (.goto 4, 3) := by decide +kernel
theorem dX12_spot_98 : decode cX12_spot 98 = .ok (.iconst 1, 1) := by decide +kernel
theorem dX12_spot_99 : decode cX12_spot 99 = .ok (.ireturn, 1) := by decide +kernel
theorem dX12_spot_100 : decode cX12_spot 100 = .ok (.iload 4, 2) := by decide +kernel
theorem dX12_spot_102 : decode cX12_spot 102 = .ok (.aload_n 0, 1) := by decide +kernel
theorem dX12_spot_103 : decode cX12_spot 103 = .ok (.iload 4, 2) := by decide +kernel
theorem dX12_spot_105 : decode cX12_spot 105 = .ok (.iconst 4, 1) := by decide +kernel
theorem dX12_spot_106 : decode cX12_spot 106 = .ok (.iadd, 1) := by decide +kernel
theorem dX12_spot_107 : decode cX12_spot 107 = .ok (.invokevirtual 105, 3) := by decide +kernel
theorem dX12_spot_110 : decode cX12_spot 110 = .ok (.iadd, 1) := by decide +kernel
theorem dX12_spot_111 : decode cX12_spot 111 = .ok (.istore 4, 2) := by decide +kernel
theorem dX12_spot_113 : decode cX12_spot 113 = .ok (.goto (-67), 3) := by decide +kernel
theorem dX12_spot_116 : decode cX12_spot 116 = .ok (.aload_n 0, 1) := by decide +kernel
theorem dX12_spot_117 : decode cX12_spot 117 = .ok (.getfield 27, 3) := by decide +kernel
theorem dX12_spot_120 : decode cX12_spot 120 = .ok (.iload_n 2, 1) := by decide +kernel
theorem dX12_spot_121 : decode cX12_spot 121 = .ok (.iaload, 1) := by decide +kernel
theorem dX12_spot_122 : decode cX12_spot 122 = .ok (.istore_n 2, 1) := by decide +kernel
theorem dX12_spot_123 : decode cX12_spot 123 = .ok (.iinc 3 1, 3) := by decide +kernel
theorem dX12_spot_126 : decode cX12_spot 126 = .ok (.goto (-100), 3) := by decide +kernel
theorem dX12_spot_129 : decode cX12_spot 129 = .ok (.iconst 0, 1) := by decide +kernel
theorem dX12_spot_130 : decode cX12_spot 130 = .ok (.ireturn, 1) := by decide +kernel
theorem dX12_uses_0 : decode cX12_uses 0 = .ok (.aload_n 0, 1) := by decide +kernel
theorem dX12_uses_1 : decode cX12_uses 1 = .ok (.iload_n 1, 1) := by decide +kernel
theorem dX12_uses_2 : decode cX12_uses 2 = .ok (.invokevirtual 189, 3) := by decide +kernel
theorem dX12_uses_5 : decode cX12_uses 5 = .ok (.ifCond .ne 7, 3) := by decide +kernel
theorem dX12_uses_8 : decode cX12_uses 8 = .ok (.iconst 0, 1) := by decide +kernel
theorem dX12_uses_9 : decode cX12_uses 9 = .ok (.goto 20, 3) := by decide +kernel
theorem dX12_uses_12 : decode cX12_uses 12 = .ok (.bipush 8, 2) := by decide +kernel
theorem dX12_uses_14 : decode cX12_uses 14 = .ok (.aload_n 0, 1) := by decide +kernel
theorem dX12_uses_15 : decode cX12_uses 15 = .ok (.iload_n 1, 1) := by decide +kernel
theorem dX12_uses_16 : decode cX12_uses 16 = .ok (.bipush 6, 2) := by decide +kernel
theorem dX12_uses_18 : decode cX12_uses 18 = .ok (.iadd, 1) := by decide +kernel
theorem dX12_uses_19 : decode cX12_uses 19 = .ok (.invokevirtual 102, 3) := by decide +kernel
theorem dX12_uses_22 : decode cX12_uses 22 = .ok (.iconst 4, 1) := by decide +kernel
theorem dX12_uses_23 : decode cX12_uses 23 = .ok (.invokestatic 94, 3) := by decide +kernel
theorem dX12_uses_26 : decode cX12_uses 26 = .ok (.iconst 4, 1) := by decide +kernel
theorem dX12_uses_27 : decode cX12_uses 27 = .ok (.imul, 1) := by decide +kernel
theorem dX12_uses_28 : decode cX12_uses 28 = .ok (.iadd, 1) := by decide +kernel
theorem dX12_uses_29 : decode cX12_uses 29 = .ok (.ireturn, 1) := by decide +kernel
theorem dX12_write_0 : decode cX12_write 0 = .ok (.aload_n 0, 1) := by decide +kernel
theorem dX12_write_1 : decode cX12_write 1 = .ok (.getfield 75, 3) := by decide +kernel
theorem dX12_write_4 : decode cX12_write 4 = .ok (.istore_n 2, 1) := by decide +kernel
theorem dX12_write_5 : decode cX12_write 5 = .ok (.aload_n 0, 1) := by decide +kernel
theorem dX12_write_6 : decode cX12_write 6 = .ok (.iconst 0, 1) := by decide +kernel
theorem dX12_write_7 : decode cX12_write 7 = .ok (.putfield 75, 3) := by decide +kernel
theorem dX12_write_10 : decode cX12_write 10 = .ok (.aload_n 0, 1) := by decide +kernel
theorem dX12_write_11 : decode cX12_write 11 = .ok (.iload_n 1, 1) := by decide +kernel
theorem dX12_write_12 : decode cX12_write 12 = .ok (.iconst 0, 1) := by decide +kernel
theorem dX12_write_13 : decode cX12_write 13 = .ok (.invokevirtual 234, 3) := by decide +kernel
theorem dX12_write_16 : decode cX12_write 16 = .ok (.ifCond .eq 7, 3) := by decide +kernel
theorem dX12_write_19 : decode cX12_write 19 = .ok (.iconst 0, 1) := by decide +kernel
theorem dX12_write_20 : decode cX12_write 20 = .ok (.goto 18, 3) := by decide +kernel
theorem dX12_write_23 : decode cX12_write 23 = .ok (.aload_n 0, 1) := by decide +kernel
theorem dX12_write_24 : decode cX12_write 24 = .ok (.aload_n 0, 1) := by decide +kernel
theorem dX12_write_25 : decode cX12_write 25 = .ok (.aload_n 0, 1) := by decide +kernel
theorem dX12_write_26 : decode cX12_write 26 = .ok (.getfield 198, 3) := by decide +kernel
theorem dX12_write_29 : decode cX12_write 29 = .ok (.invokevirtual 189, 3) := by decide +kernel
theorem dX12_write_32 : decode cX12_write 32 = .ok (.iload_n 2, 1) := by decide +kernel
theorem dX12_write_33 : decode cX12_write 33 = .ok (.iconst 1, 1) := by decide +kernel
theorem dX12_write_34 : decode cX12_write 34 = .ok (.iconst 0, 1) := by decide +kernel
theorem dX12_write_35 : decode cX12_write 35 = .ok (.invokevirtual 238, 3) := by decide +kernel
theorem dX12_write_38 : decode cX12_write 38 = .ok (.ireturn, 1) := by decide +kernel
theorem dX12_noFile_0 : decode cX12_noFile 0 = .ok (.aload_n 0, 1) := by decide +kernel
theorem dX12_noFile_1 : decode cX12_noFile 1 = .ok (.iload_n 1, 1) := by decide +kernel
theorem dX12_noFile_2 : decode cX12_noFile 2 = .ok (.invokevirtual 216, 3) := by decide +kernel
theorem dX12_noFile_5 : decode cX12_noFile 5 = .ok (.ifCond .ne 37, 3) := by decide +kernel
theorem dX12_noFile_8 : decode cX12_noFile 8 = .ok (.aload_n 0, 1) := by decide +kernel
theorem dX12_noFile_9 : decode cX12_noFile 9 = .ok (.aload_n 0, 1) := by decide +kernel
theorem dX12_noFile_10 : decode cX12_noFile 10 = .ok (.getfield 31, 3) := by decide +kernel
theorem dX12_noFile_13 : decode cX12_noFile 13 = .ok (.aload_n 0, 1) := by decide +kernel
theorem dX12_noFile_14 : decode cX12_noFile 14 = .ok (.aload_n 0, 1) := by decide +kernel
theorem dX12_noFile_15 : decode cX12_noFile 15 = .ok (.getfield 198, 3) := by decide +kernel
theorem dX12_noFile_18 : decode cX12_noFile 18 = .ok (.invokevirtual 189, 3) := by decide +kernel
theorem dX12_noFile_21 : decode cX12_noFile 21 = .ok (.iaload, 1) := by decide +kernel
theorem dX12_noFile_22 : decode cX12_noFile 22 = .ok (.iconst 1, 1) := by decide +kernel
theorem dX12_noFile_23 : decode cX12_noFile 23 = .ok (.if_icmp .ne 7, 3) := by decide +kernel
theorem dX12_noFile_26 : decode cX12_noFile 26 = .ok (.iload_n 2, 1) := by decide +kernel
theorem dX12_noFile_27 : decode cX12_noFile 27 = .ok (.ifCond .eq 7, 3) := by decide +kernel
theorem dX12_noFile_30 : decode cX12_noFile 30 = .ok (.iconst 1, 1) := by decide +kernel
theorem dX12_noFile_31 : decode cX12_noFile 31 = .ok (.goto 4, 3) := by decide +kernel
theorem dX12_noFile_34 : decode cX12_noFile 34 = .ok (.iconst 0, 1) := by decide +kernel
theorem dX12_noFile_35 : decode cX12_noFile 35 = .ok (.iconst 3, 1) := by decide +kernel
theorem dX12_noFile_36 : decode cX12_noFile 36 = .ok (.invokevirtual 205, 3) := by decide +kernel
theorem dX12_noFile_39 : decode cX12_noFile 39 = .ok (.ifCond .eq 7, 3) := by decide +kernel
theorem dX12_noFile_42 : decode cX12_noFile 42 = .ok (.iconst 1, 1) := by decide +kernel
theorem dX12_noFile_43 : decode cX12_noFile 43 = .ok (.goto 4, 3) := by decide +kernel
theorem dX12_noFile_46 : decode cX12_noFile 46 = .ok (.iconst 0, 1) := by decide +kernel
theorem dX12_noFile_47 : decode cX12_noFile 47 = .ok (.ireturn, 1) := by decide +kernel
theorem dX12_append_0 : decode cX12_append 0 = .ok (.aload_n 0, 1) := by decide +kernel
theorem dX12_append_1 : decode cX12_append 1 = .ok (.getfield 34, 3) := by decide +kernel
theorem dX12_append_4 : decode cX12_append 4 = .ok (.iload_n 1, 1) := by decide +kernel
theorem dX12_append_5 : decode cX12_append 5 = .ok (.iaload, 1) := by decide +kernel
theorem dX12_append_6 : decode cX12_append 6 = .ok (.istore 5, 2) := by decide +kernel
theorem dX12_append_8 : decode cX12_append 8 = .ok (.iload 5, 2) := by decide +kernel
theorem dX12_append_10 : decode cX12_append 10 = .ok (.iload_n 2, 1) := by decide +kernel
theorem dX12_append_11 : decode cX12_append 11 = .ok (.iadd, 1) := by decide +kernel
theorem dX12_append_12 : decode cX12_append 12 = .ok (.sipush 1024, 3) := by decide +kernel
theorem dX12_append_15 : decode cX12_append 15 = .ok (.invokestatic 94, 3) := by decide +kernel
theorem dX12_append_18 : decode cX12_append 18 = .ok (.invokestatic 161, 3) := by decide +kernel
theorem dX12_append_21 : decode cX12_append 21 = .ok (.aload_n 0, 1) := by decide +kernel
theorem dX12_append_22 : decode cX12_append 22 = .ok (.getfield 40, 3) := by decide +kernel
theorem dX12_append_25 : decode cX12_append 25 = .ok (.iload_n 1, 1) := by decide +kernel
theorem dX12_append_26 : decode cX12_append 26 = .ok (.iaload, 1) := by decide +kernel
theorem dX12_append_27 : decode cX12_append 27 = .ok (.invokestatic 161, 3) := by decide +kernel
theorem dX12_append_30 : decode cX12_append 30 = .ok (.isub, 1) := by decide +kernel
theorem dX12_append_31 : decode cX12_append 31 = .ok (.istore 6, 2) := by decide +kernel
theorem dX12_append_33 : decode cX12_append 33 = .ok (.aload_n 0, 1) := by decide +kernel
theorem dX12_append_34 : decode cX12_append 34 = .ok (.iload 6, 2) := by decide +kernel
theorem dX12_append_36 : decode cX12_append 36 = .ok (.aload_n 0, 1) := by decide +kernel
theorem dX12_append_37 : decode cX12_append 37 = .ok (.invokevirtual 140, 3) := by decide +kernel
theorem dX12_append_40 : decode cX12_append 40 = .ok (.if_icmp .le 7, 3) := by decide +kernel
theorem dX12_append_43 : decode cX12_append 43 = .ok (.iconst 1, 1) := by decide +kernel
theorem dX12_append_44 : decode cX12_append 44 = .ok (.goto 4, 3) := by decide +kernel
theorem dX12_append_47 : decode cX12_append 47 = .ok (.iconst 0, 1) := by decide +kernel
theorem dX12_append_48 : decode cX12_append 48 = .ok (.iconst 4, 1) := by decide +kernel
theorem dX12_append_49 : decode cX12_append 49 = .ok (.invokevirtual 205, 3) := by decide +kernel
theorem dX12_append_52 : decode cX12_append 52 = .ok (.ifCond .eq 5, 3) := by decide +kernel
theorem dX12_append_55 : decode cX12_append 55 = .ok (.iconst 0, 1) := by decide +kernel
theorem dX12_append_56 : decode cX12_append 56 = .ok (.ireturn, 1) := by decide +kernel
theorem dX12_append_57 : decode cX12_append 57 = .ok (.aload_n 0, 1) := by decide +kernel
theorem dX12_append_58 : decode cX12_append 58 = .ok (.getfield 40, 3) := by decide +kernel
theorem dX12_append_61 : decode cX12_append 61 = .ok (.iload_n 1, 1) := by decide +kernel
theorem dX12_append_62 : decode cX12_append 62 = .ok (.iaload, 1) := by decide +kernel
theorem dX12_append_63 : decode cX12_append 63 = .ok (.iload 5, 2) := by decide +kernel
theorem dX12_append_65 : decode cX12_append 65 = .ok (.iload_n 2, 1) := by decide +kernel
theorem dX12_append_66 : decode cX12_append 66 = .ok (.iadd, 1) := by decide +kernel
theorem dX12_append_67 : decode cX12_append 67 = .ok (.sipush 1024, 3) := by decide +kernel
theorem dX12_append_70 : decode cX12_append 70 = .ok (.invokestatic 94, 3) := by decide +kernel
theorem dX12_append_73 : decode cX12_append 73 = .ok (.if_icmp .ge 11, 3) := by decide +kernel
theorem dX12_append_76 : decode cX12_append 76 = .ok (.aload_n 0, 1) := by decide +kernel
theorem dX12_append_77 : decode cX12_append 77 = .ok (.iload_n 1, 1) := by decide +kernel
theorem dX12_append_78 : decode cX12_append 78 = .ok (.invokevirtual 143, 3) := by decide +kernel
theorem dX12_append_81 : decode cX12_append 81 = .ok (.goto (-24), 3) := by decide +kernel
theorem dX12_append_84 : decode cX12_append 84 = .ok (.iconst 0, 1) := by decide +kernel
theorem dX12_append_85 : decode cX12_append 85 = .ok (.istore 7, 2) := by decide +kernel
theorem dX12_append_87 : decode cX12_append 87 = .ok (.iconst 0, 1) := by decide +kernel
theorem dX12_append_88 : decode cX12_append 88 = .ok (.istore 8, 2) := by decide +kernel
theorem dX12_append_90 : decode cX12_append 90 = .ok (.iload 8, 2) := by decide +kernel
theorem dX12_append_92 : decode cX12_append 92 = .ok (.iload_n 2, 1) := by decide +kernel
theorem dX12_append_93 : decode cX12_append 93 = .ok (.if_icmp .ge 105, 3) := by decide +kernel
theorem dX12_append_96 : decode cX12_append 96 = .ok (.iload 5, 2) := by decide +kernel
theorem dX12_append_98 : decode cX12_append 98 = .ok (.iload 8, 2) := by decide +kernel
theorem dX12_append_100 : decode cX12_append 100 = .ok (.iadd, 1) := by decide +kernel
theorem dX12_append_101 : decode cX12_append 101 = .ok (.istore 9, 2) := by decide +kernel
theorem dX12_append_103 : decode cX12_append 103 = .ok (.iload 8, 2) := by decide +kernel
theorem dX12_append_105 : decode cX12_append 105 = .ok (.ifCond .ne 17, 3) := by decide +kernel
theorem dX12_append_108 : decode cX12_append 108 = .ok (.aload_n 0, 1) := by decide +kernel
theorem dX12_append_109 : decode cX12_append 109 = .ok (.iload_n 1, 1) := by decide +kernel
theorem dX12_append_110 : decode cX12_append 110 = .ok (.iload 9, 2) := by decide +kernel
theorem dX12_append_112 : decode cX12_append 112 = .ok (.sipush 1024, 3) := by decide +kernel
theorem dX12_append_115 : decode cX12_append 115 = .ok (.idiv, 1) := by decide +kernel
theorem dX12_append_116 : decode cX12_append 116 = .ok (.invokevirtual 219, 3) := by decide +kernel
theorem dX12_append_119 : decode cX12_append 119 = .ok (.goto 24, 3) := by decide +kernel
theorem dX12_append_122 : decode cX12_append 122 = .ok (.iload 9, 2) := by decide +kernel
theorem dX12_append_124 : decode cX12_append 124 = .ok (.sipush 1024, 3) := by decide +kernel
theorem dX12_append_127 : decode cX12_append 127 = .ok (.irem, 1) := by decide +kernel
theorem dX12_append_128 : decode cX12_append 128 = .ok (.ifCond .ne 13, 3) := by decide +kernel
theorem dX12_append_131 : decode cX12_append 131 = .ok (.aload_n 0, 1) := by decide +kernel
theorem dX12_append_132 : decode cX12_append 132 = .ok (.getfield 27, 3) := by decide +kernel
theorem dX12_append_135 : decode cX12_append 135 = .ok (.iload 7, 2) := by decide +kernel
theorem dX12_append_137 : decode cX12_append 137 = .ok (.iaload, 1) := by decide +kernel
theorem dX12_append_138 : decode cX12_append 138 = .ok (.goto 5, 3) := by decide +kernel
theorem dX12_append_141 : decode cX12_append 141 = .ok (.iload 7, 2) := by decide +kernel
theorem dX12_append_143 : decode cX12_append 143 = .ok (.istore 7, 2) := by decide +kernel
theorem dX12_append_145 : decode cX12_append 145 = .ok (.aload_n 0, 1) := by decide +kernel
theorem dX12_append_146 : decode cX12_append 146 = .ok (.getfield 8, 3) := by decide +kernel
theorem dX12_append_149 : decode cX12_append 149 = .ok (.sipush 1024, 3) := by decide +kernel
theorem dX12_append_152 : decode cX12_append 152 = .ok (.iload 7, 2) := by decide +kernel
theorem dX12_append_154 : decode cX12_append 154 = .ok (.imul, 1) := by decide +kernel
theorem dX12_append_155 : decode cX12_append 155 = .ok (.iload 9, 2) := by decide +kernel
theorem dX12_append_157 : decode cX12_append 157 = .ok (.sipush 1024, 3) := by decide +kernel
theorem dX12_append_160 : decode cX12_append 160 = .ok (.irem, 1) := by decide +kernel
theorem dX12_append_161 : decode cX12_append 161 = .ok (.iadd, 1) := by decide +kernel
theorem dX12_append_162 : decode cX12_append 162 = .ok (.iload_n 3, 1) := by decide +kernel
theorem dX12_append_163 : decode cX12_append 163 = .ok (.ifCond .eq 13, 3) := by decide +kernel
theorem dX12_append_166 : decode cX12_append 166 = .ok (.aload_n 0, 1) := by decide +kernel
theorem dX12_append_167 : decode cX12_append 167 = .ok (.getfield 17, 3) := by decide +kernel
theorem dX12_append_170 : decode cX12_append 170 = .ok (.iload 8, 2) := by decide +kernel
theorem dX12_append_172 : decode cX12_append 172 = .ok (.baload, 1) := by decide +kernel
theorem dX12_append_173 : decode cX12_append 173 = .ok (.goto 18, 3) := by decide +kernel
theorem dX12_append_176 : decode cX12_append 176 = .ok (.iload 4, 2) := by decide +kernel
theorem dX12_append_178 : decode cX12_append 178 = .ok (.iload 8, 2) := by decide +kernel
theorem dX12_append_180 : decode cX12_append 180 = .ok (.iload 8, 2) := by decide +kernel
theorem dX12_append_182 : decode cX12_append 182 = .ok (.imul, 1) := by decide +kernel
theorem dX12_append_183 : decode cX12_append 183 = .ok (.iadd, 1) := by decide +kernel
theorem dX12_append_184 : decode cX12_append 184 = .ok (.iload 8, 2) := by decide +kernel
theorem dX12_append_186 : decode cX12_append 186 = .ok (.bipush 8, 2) := by decide +kernel
theorem dX12_append_188 : decode cX12_append 188 = .ok (.ishr, 1) := by decide +kernel
theorem dX12_append_189 : decode cX12_append 189 = .ok (.iadd, 1) := by decide +kernel
theorem dX12_append_190 : decode cX12_append 190 = .ok (.i2b, 1) := by decide +kernel
theorem dX12_append_191 : decode cX12_append 191 = .ok (.bastore, 1) := by decide +kernel
theorem dX12_append_192 : decode cX12_append 192 = .ok (.iinc 8 1, 3) := by decide +kernel
theorem dX12_append_195 : decode cX12_append 195 = .ok (.goto (-105), 3) := by decide +kernel
theorem dX12_append_198 : decode cX12_append 198 = .ok (.aload_n 0, 1) := by decide +kernel
theorem dX12_append_199 : decode cX12_append 199 = .ok (.getfield 34, 3) := by decide +kernel
theorem dX12_append_202 : decode cX12_append 202 = .ok (.iload_n 1, 1) := by decide +kernel
theorem dX12_append_203 : decode cX12_append 203 = .ok (.iload 5, 2) := by decide +kernel
theorem dX12_append_205 : decode cX12_append 205 = .ok (.iload_n 2, 1) := by decide +kernel
theorem dX12_append_206 : decode cX12_append 206 = .ok (.iadd, 1) := by decide +kernel
theorem dX12_append_207 : decode cX12_append 207 = .ok (.iastore, 1) := by decide +kernel
theorem dX12_append_208 : decode cX12_append 208 = .ok (.aload_n 0, 1) := by decide +kernel
theorem dX12_append_209 : decode cX12_append 209 = .ok (.iconst 0, 1) := by decide +kernel
theorem dX12_append_210 : decode cX12_append 210 = .ok (.putfield 137, 3) := by decide +kernel
theorem dX12_append_213 : decode cX12_append 213 = .ok (.aload_n 0, 1) := by decide +kernel
theorem dX12_append_214 : decode cX12_append 214 = .ok (.getfield 34, 3) := by decide +kernel
theorem dX12_append_217 : decode cX12_append 217 = .ok (.iload_n 1, 1) := by decide +kernel
theorem dX12_append_218 : decode cX12_append 218 = .ok (.iaload, 1) := by decide +kernel
theorem dX12_append_219 : decode cX12_append 219 = .ok (.ireturn, 1) := by decide +kernel
theorem dX12_grow_0 : decode cX12_grow 0 = .ok (.aload_n 0, 1) := by decide +kernel
theorem dX12_grow_1 : decode cX12_grow 1 = .ok (.iload_n 1, 1) := by decide +kernel
theorem dX12_grow_2 : decode cX12_grow 2 = .ok (.iload_n 2, 1) := by decide +kernel
theorem dX12_grow_3 : decode cX12_grow 3 = .ok (.ifCond .lt 9, 3) := by decide +kernel
theorem dX12_grow_6 : decode cX12_grow 6 = .ok (.iload_n 2, 1) := by decide +kernel
theorem dX12_grow_7 : decode cX12_grow 7 = .ok (.ldc 242, 2) := by decide +kernel
theorem dX12_grow_9 : decode cX12_grow 9 = .ok (.if_icmp .le 7, 3) := by decide +kernel
theorem dX12_grow_12 : decode cX12_grow 12 = .ok (.iconst 1, 1) := by decide +kernel
theorem dX12_grow_13 : decode cX12_grow 13 = .ok (.goto 4, 3) := by decide +kernel
theorem dX12_grow_16 : decode cX12_grow 16 = .ok (.iconst 0, 1) := by decide +kernel
theorem dX12_grow_17 : decode cX12_grow 17 = .ok (.invokevirtual 234, 3) := by decide +kernel
theorem dX12_grow_20 : decode cX12_grow 20 = .ok (.ifCond .eq 7, 3) := by decide +kernel
theorem dX12_grow_23 : decode cX12_grow 23 = .ok (.iconst 0, 1) := by decide +kernel
theorem dX12_grow_24 : decode cX12_grow 24 = .ok (.goto 18, 3) := by decide +kernel
theorem dX12_grow_27 : decode cX12_grow 27 = .ok (.aload_n 0, 1) := by decide +kernel
theorem dX12_grow_28 : decode cX12_grow 28 = .ok (.aload_n 0, 1) := by decide +kernel
theorem dX12_grow_29 : decode cX12_grow 29 = .ok (.aload_n 0, 1) := by decide +kernel
theorem dX12_grow_30 : decode cX12_grow 30 = .ok (.getfield 198, 3) := by decide +kernel
theorem dX12_grow_33 : decode cX12_grow 33 = .ok (.invokevirtual 189, 3) := by decide +kernel
theorem dX12_grow_36 : decode cX12_grow 36 = .ok (.iload_n 2, 1) := by decide +kernel
theorem dX12_grow_37 : decode cX12_grow 37 = .ok (.iconst 0, 1) := by decide +kernel
theorem dX12_grow_38 : decode cX12_grow 38 = .ok (.iload_n 3, 1) := by decide +kernel
theorem dX12_grow_39 : decode cX12_grow 39 = .ok (.invokevirtual 238, 3) := by decide +kernel
theorem dX12_grow_42 : decode cX12_grow 42 = .ok (.ireturn, 1) := by decide +kernel
theorem dX12_cut_0 : decode cX12_cut 0 = .ok (.aload_n 0, 1) := by decide +kernel
theorem dX12_cut_1 : decode cX12_cut 1 = .ok (.iload_n 1, 1) := by decide +kernel
theorem dX12_cut_2 : decode cX12_cut 2 = .ok (.iload_n 2, 1) := by decide +kernel
theorem dX12_cut_3 : decode cX12_cut 3 = .ok (.ifCond .ge 7, 3) := by decide +kernel
theorem dX12_cut_6 : decode cX12_cut 6 = .ok (.iconst 1, 1) := by decide +kernel
theorem dX12_cut_7 : decode cX12_cut 7 = .ok (.goto 4, 3) := by decide +kernel
theorem dX12_cut_10 : decode cX12_cut 10 = .ok (.iconst 0, 1) := by decide +kernel
theorem dX12_cut_11 : decode cX12_cut 11 = .ok (.invokevirtual 234, 3) := by decide +kernel
theorem dX12_cut_14 : decode cX12_cut 14 = .ok (.ifCond .ne 33, 3) := by decide +kernel
theorem dX12_cut_17 : decode cX12_cut 17 = .ok (.aload_n 0, 1) := by decide +kernel
theorem dX12_cut_18 : decode cX12_cut 18 = .ok (.iload_n 2, 1) := by decide +kernel
theorem dX12_cut_19 : decode cX12_cut 19 = .ok (.aload_n 0, 1) := by decide +kernel
theorem dX12_cut_20 : decode cX12_cut 20 = .ok (.getfield 34, 3) := by decide +kernel
theorem dX12_cut_23 : decode cX12_cut 23 = .ok (.aload_n 0, 1) := by decide +kernel
theorem dX12_cut_24 : decode cX12_cut 24 = .ok (.aload_n 0, 1) := by decide +kernel
theorem dX12_cut_25 : decode cX12_cut 25 = .ok (.getfield 198, 3) := by decide +kernel
theorem dX12_cut_28 : decode cX12_cut 28 = .ok (.invokevirtual 189, 3) := by decide +kernel
theorem dX12_cut_31 : decode cX12_cut 31 = .ok (.iaload, 1) := by decide +kernel
theorem dX12_cut_32 : decode cX12_cut 32 = .ok (.if_icmp .le 7, 3) := by decide +kernel
theorem dX12_cut_35 : decode cX12_cut 35 = .ok (.iconst 1, 1) := by decide +kernel
theorem dX12_cut_36 : decode cX12_cut 36 = .ok (.goto 4, 3) := by decide +kernel
theorem dX12_cut_39 : decode cX12_cut 39 = .ok (.iconst 0, 1) := by decide +kernel
theorem dX12_cut_40 : decode cX12_cut 40 = .ok (.iconst 3, 1) := by decide +kernel
theorem dX12_cut_41 : decode cX12_cut 41 = .ok (.invokevirtual 205, 3) := by decide +kernel
theorem dX12_cut_44 : decode cX12_cut 44 = .ok (.ifCond .eq 5, 3) := by decide +kernel
theorem dX12_cut_47 : decode cX12_cut 47 = .ok (.iconst 0, 1) := by decide +kernel
theorem dX12_cut_48 : decode cX12_cut 48 = .ok (.ireturn, 1) := by decide +kernel
theorem dX12_cut_49 : decode cX12_cut 49 = .ok (.aload_n 0, 1) := by decide +kernel
theorem dX12_cut_50 : decode cX12_cut 50 = .ok (.aload_n 0, 1) := by decide +kernel
theorem dX12_cut_51 : decode cX12_cut 51 = .ok (.getfield 198, 3) := by decide +kernel
theorem dX12_cut_54 : decode cX12_cut 54 = .ok (.invokevirtual 189, 3) := by decide +kernel
theorem dX12_cut_57 : decode cX12_cut 57 = .ok (.istore_n 3, 1) := by decide +kernel
theorem dX12_cut_58 : decode cX12_cut 58 = .ok (.aload_n 0, 1) := by decide +kernel
theorem dX12_cut_59 : decode cX12_cut 59 = .ok (.getfield 40, 3) := by decide +kernel
theorem dX12_cut_62 : decode cX12_cut 62 = .ok (.iload_n 3, 1) := by decide +kernel
theorem dX12_cut_63 : decode cX12_cut 63 = .ok (.iaload, 1) := by decide +kernel
theorem dX12_cut_64 : decode cX12_cut 64 = .ok (.invokestatic 161, 3) := by decide +kernel
theorem dX12_cut_67 : decode cX12_cut 67 = .ok (.istore 4, 2) := by decide +kernel
theorem dX12_cut_69 : decode cX12_cut 69 = .ok (.aload_n 0, 1) := by decide +kernel
theorem dX12_cut_70 : decode cX12_cut 70 = .ok (.iload_n 3, 1) := by decide +kernel
theorem dX12_cut_71 : decode cX12_cut 71 = .ok (.iload_n 2, 1) := by decide +kernel
theorem dX12_cut_72 : decode cX12_cut 72 = .ok (.sipush 1024, 3) := by decide +kernel
theorem dX12_cut_75 : decode cX12_cut 75 = .ok (.invokestatic 94, 3) := by decide +kernel
theorem dX12_cut_78 : decode cX12_cut 78 = .ok (.invokevirtual 243, 3) := by decide +kernel
theorem dX12_cut_81 : decode cX12_cut 81 = .ok (.aload_n 0, 1) := by decide +kernel
theorem dX12_cut_82 : decode cX12_cut 82 = .ok (.getfield 34, 3) := by decide +kernel
theorem dX12_cut_85 : decode cX12_cut 85 = .ok (.iload_n 3, 1) := by decide +kernel
theorem dX12_cut_86 : decode cX12_cut 86 = .ok (.iload_n 2, 1) := by decide +kernel
theorem dX12_cut_87 : decode cX12_cut 87 = .ok (.iastore, 1) := by decide +kernel
theorem dX12_cut_88 : decode cX12_cut 88 = .ok (.aload_n 0, 1) := by decide +kernel
theorem dX12_cut_89 : decode cX12_cut 89 = .ok (.iconst 0, 1) := by decide +kernel
theorem dX12_cut_90 : decode cX12_cut 90 = .ok (.putfield 137, 3) := by decide +kernel
theorem dX12_cut_93 : decode cX12_cut 93 = .ok (.iload 4, 2) := by decide +kernel
theorem dX12_cut_95 : decode cX12_cut 95 = .ok (.aload_n 0, 1) := by decide +kernel
theorem dX12_cut_96 : decode cX12_cut 96 = .ok (.getfield 40, 3) := by decide +kernel
theorem dX12_cut_99 : decode cX12_cut 99 = .ok (.iload_n 3, 1) := by decide +kernel
theorem dX12_cut_100 : decode cX12_cut 100 = .ok (.iaload, 1) := by decide +kernel
theorem dX12_cut_101 : decode cX12_cut 101 = .ok (.invokestatic 161, 3) := by decide +kernel
theorem dX12_cut_104 : decode cX12_cut 104 = .ok (.isub, 1) := by decide +kernel
theorem dX12_cut_105 : decode cX12_cut 105 = .ok (.ireturn, 1) := by decide +kernel
theorem dX12_keep_0 : decode cX12_keep 0 = .ok (.aload_n 0, 1) := by decide +kernel
theorem dX12_keep_1 : decode cX12_keep 1 = .ok (.getfield 43, 3) := by decide +kernel
theorem dX12_keep_4 : decode cX12_keep 4 = .ok (.iload_n 1, 1) := by decide +kernel
theorem dX12_keep_5 : decode cX12_keep 5 = .ok (.iaload, 1) := by decide +kernel
theorem dX12_keep_6 : decode cX12_keep 6 = .ok (.istore_n 3, 1) := by decide +kernel
theorem dX12_keep_7 : decode cX12_keep 7 = .ok (.iconst 0, 1) := by decide +kernel
theorem dX12_keep_8 : decode cX12_keep 8 = .ok (.istore 4, 2) := by decide +kernel
theorem dX12_keep_10 : decode cX12_keep 10 = .ok (.iload 4, 2) := by decide +kernel
theorem dX12_keep_12 : decode cX12_keep 12 = .ok (.aload_n 0, 1) := by decide +kernel
theorem dX12_keep_13 : decode cX12_keep 13 = .ok (.getfield 40, 3) := by decide +kernel
theorem dX12_keep_16 : decode cX12_keep 16 = .ok (.iload_n 1, 1) := by decide +kernel
theorem dX12_keep_17 : decode cX12_keep 17 = .ok (.iaload, 1) := by decide +kernel
theorem dX12_keep_18 : decode cX12_keep 18 = .ok (.if_icmp .ge 44, 3) := by decide +kernel
theorem dX12_keep_21 : decode cX12_keep 21 = .ok (.iload 4, 2) := by decide +kernel
theorem dX12_keep_23 : decode cX12_keep 23 = .ok (.iload_n 2, 1) := by decide +kernel
theorem dX12_keep_24 : decode cX12_keep 24 = .ok (.if_icmp .lt 10, 3) := by decide +kernel
theorem dX12_keep_27 : decode cX12_keep 27 = .ok (.aload_n 0, 1) := by decide +kernel
theorem dX12_keep_28 : decode cX12_keep 28 = .ok (.getfield 23, 3) := by decide +kernel
theorem dX12_keep_31 : decode cX12_keep 31 = .ok (.iload_n 3, 1) := by decide +kernel
theorem dX12_keep_32 : decode cX12_keep 32 = .ok (.iconst 0, 1) := by decide +kernel
theorem dX12_keep_33 : decode cX12_keep 33 = .ok (.bastore, 1) := by decide +kernel
theorem dX12_keep_34 : decode cX12_keep 34 = .ok (.iload 4, 2) := by decide +kernel
theorem dX12_keep_36 : decode cX12_keep 36 = .ok (.iload_n 2, 1) := by decide +kernel
theorem dX12_keep_37 : decode cX12_keep 37 = .ok (.iconst 1, 1) := by decide +kernel
theorem dX12_keep_38 : decode cX12_keep 38 = .ok (.isub, 1) := by decide +kernel
theorem dX12_keep_39 : decode cX12_keep 39 = .ok (.if_icmp .ne 10, 3) := by decide +kernel
theorem dX12_keep_42 : decode cX12_keep 42 = .ok (.aload_n 0, 1) := by decide +kernel
theorem dX12_keep_43 : decode cX12_keep 43 = .ok (.getfield 46, 3) := by decide +kernel
theorem dX12_keep_46 : decode cX12_keep 46 = .ok (.iload_n 1, 1) := by decide +kernel
theorem dX12_keep_47 : decode cX12_keep 47 = .ok (.iload_n 3, 1) := by decide +kernel
theorem dX12_keep_48 : decode cX12_keep 48 = .ok (.iastore, 1) := by decide +kernel
theorem dX12_keep_49 : decode cX12_keep 49 = .ok (.aload_n 0, 1) := by decide +kernel
theorem dX12_keep_50 : decode cX12_keep 50 = .ok (.getfield 27, 3) := by decide +kernel
theorem dX12_keep_53 : decode cX12_keep 53 = .ok (.iload_n 3, 1) := by decide +kernel
theorem dX12_keep_54 : decode cX12_keep 54 = .ok (.iaload, 1) := by decide +kernel
theorem dX12_keep_55 : decode cX12_keep 55 = .ok (.istore_n 3, 1) := by decide +kernel
theorem dX12_keep_56 : decode cX12_keep 56 = .ok (.iinc 4 1, 3) := by decide +kernel
theorem dX12_keep_59 : decode cX12_keep 59 = .ok (.goto (-49), 3) := by decide +kernel
theorem dX12_keep_62 : decode cX12_keep 62 = .ok (.aload_n 0, 1) := by decide +kernel
theorem dX12_keep_63 : decode cX12_keep 63 = .ok (.getfield 55, 3) := by decide +kernel
theorem dX12_keep_66 : decode cX12_keep 66 = .ok (.iload_n 1, 1) := by decide +kernel
theorem dX12_keep_67 : decode cX12_keep 67 = .ok (.iaload, 1) := by decide +kernel
theorem dX12_keep_68 : decode cX12_keep 68 = .ok (.istore 4, 2) := by decide +kernel
theorem dX12_keep_70 : decode cX12_keep 70 = .ok (.iload_n 2, 1) := by decide +kernel
theorem dX12_keep_71 : decode cX12_keep 71 = .ok (.sipush 268, 3) := by decide +kernel
theorem dX12_keep_74 : decode cX12_keep 74 = .ok (.if_icmp .le 17, 3) := by decide +kernel
theorem dX12_keep_77 : decode cX12_keep 77 = .ok (.iload_n 2, 1) := by decide +kernel
theorem dX12_keep_78 : decode cX12_keep 78 = .ok (.sipush 268, 3) := by decide +kernel
theorem dX12_keep_81 : decode cX12_keep 81 = .ok (.isub, 1) := by decide +kernel
theorem dX12_keep_82 : decode cX12_keep 82 = .ok (.sipush 256, 3) := by decide +kernel
theorem dX12_keep_85 : decode cX12_keep 85 = .ok (.invokestatic 94, 3) := by decide +kernel
theorem dX12_keep_88 : decode cX12_keep 88 = .ok (.goto 4, 3) := by decide +kernel
theorem dX12_keep_91 : decode cX12_keep 91 = .ok (.iconst 0, 1) := by decide +kernel
theorem dX12_keep_92 : decode cX12_keep 92 = .ok (.istore 5, 2) := by decide +kernel
theorem dX12_keep_94 : decode cX12_keep 94 = .ok (.iconst 0, 1) := by decide +kernel
theorem dX12_keep_95 : decode cX12_keep 95 = .ok (.istore 6, 2) := by decide +kernel
theorem dX12_keep_97 : decode cX12_keep 97 = .ok (.iconst 0, 1) := by decide +kernel
theorem dX12_keep_98 : decode cX12_keep 98 = .ok (.istore 7, 2) := by decide +kernel
theorem dX12_keep_100 : decode cX12_keep 100 = .ok (.iload 4, 2) := by decide +kernel
theorem dX12_keep_102 : decode cX12_keep 102 = .ok (.ifCond .eq 46, 3) := by decide +kernel
theorem dX12_keep_105 : decode cX12_keep 105 = .ok (.iload 6, 2) := by decide +kernel
theorem dX12_keep_107 : decode cX12_keep 107 = .ok (.iload 5, 2) := by decide +kernel
theorem dX12_keep_109 : decode cX12_keep 109 = .ok (.if_icmp .lt 11, 3) := by decide +kernel
theorem dX12_keep_112 : decode cX12_keep 112 = .ok (.aload_n 0, 1) := by decide +kernel
theorem dX12_keep_113 : decode cX12_keep 113 = .ok (.getfield 23, 3) := by decide +kernel
theorem dX12_keep_116 : decode cX12_keep 116 = .ok (.iload 4, 2) := by decide +kernel
theorem dX12_keep_118 : decode cX12_keep 118 = .ok (.iconst 0, 1) := by decide +kernel
theorem dX12_keep_119 : decode cX12_keep 119 = .ok (.bastore, 1) := by decide +kernel
theorem dX12_keep_120 : decode cX12_keep 120 = .ok (.iload 6, 2) := by decide +kernel
theorem dX12_keep_122 : decode cX12_keep 122 = .ok (.iload 5, 2) := by decide +kernel
theorem dX12_keep_124 : decode cX12_keep 124 = .ok (.iconst 1, 1) := by decide +kernel
theorem dX12_keep_125 : decode cX12_keep 125 = .ok (.isub, 1) := by decide +kernel
theorem dX12_keep_126 : decode cX12_keep 126 = .ok (.if_icmp .ne 7, 3) := by decide +kernel
theorem dX12_keep_129 : decode cX12_keep 129 = .ok (.iload 4, 2) := by decide +kernel
theorem dX12_keep_131 : decode cX12_keep 131 = .ok (.istore 7, 2) := by decide +kernel
theorem dX12_keep_133 : decode cX12_keep 133 = .ok (.iinc 6 1, 3) := by decide +kernel
theorem dX12_keep_136 : decode cX12_keep 136 = .ok (.aload_n 0, 1) := by decide +kernel
theorem dX12_keep_137 : decode cX12_keep 137 = .ok (.getfield 27, 3) := by decide +kernel
theorem dX12_keep_140 : decode cX12_keep 140 = .ok (.iload 4, 2) := by decide +kernel
theorem dX12_keep_142 : decode cX12_keep 142 = .ok (.iaload, 1) := by decide +kernel
theorem dX12_keep_143 : decode cX12_keep 143 = .ok (.istore 4, 2) := by decide +kernel
theorem dX12_keep_145 : decode cX12_keep 145 = .ok (.goto (-45), 3) := by decide +kernel
theorem dX12_keep_148 : decode cX12_keep 148 = .ok (.iload 7, 2) := by decide +kernel
theorem dX12_keep_150 : decode cX12_keep 150 = .ok (.ifCond .eq 11, 3) := by decide +kernel
theorem dX12_keep_153 : decode cX12_keep 153 = .ok (.aload_n 0, 1) := by decide +kernel
theorem dX12_keep_154 : decode cX12_keep 154 = .ok (.getfield 27, 3) := by decide +kernel
theorem dX12_keep_157 : decode cX12_keep 157 = .ok (.iload 7, 2) := by decide +kernel
theorem dX12_keep_159 : decode cX12_keep 159 = .ok (.iconst 0, 1) := by decide +kernel
theorem dX12_keep_160 : decode cX12_keep 160 = .ok (.iastore, 1) := by decide +kernel
theorem dX12_keep_161 : decode cX12_keep 161 = .ok (.aload_n 0, 1) := by decide +kernel
theorem dX12_keep_162 : decode cX12_keep 162 = .ok (.getfield 55, 3) := by decide +kernel
theorem dX12_keep_165 : decode cX12_keep 165 = .ok (.iload_n 1, 1) := by decide +kernel
theorem dX12_keep_166 : decode cX12_keep 166 = .ok (.iload 5, 2) := by decide +kernel
theorem dX12_keep_168 : decode cX12_keep 168 = .ok (.ifCond .ne 7, 3) := by decide +kernel
theorem dX12_keep_171 : decode cX12_keep 171 = .ok (.iconst 0, 1) := by decide +kernel
theorem dX12_keep_172 : decode cX12_keep 172 = .ok (.goto 9, 3) := by decide +kernel
theorem dX12_keep_175 : decode cX12_keep 175 = .ok (.aload_n 0, 1) := by decide +kernel
theorem dX12_keep_176 : decode cX12_keep 176 = .ok (.getfield 55, 3) := by decide +kernel
theorem dX12_keep_179 : decode cX12_keep 179 = .ok (.iload_n 1, 1) := by decide +kernel
theorem dX12_keep_180 : decode cX12_keep 180 = .ok (.iaload, 1) := by decide +kernel
theorem dX12_keep_181 : decode cX12_keep 181 = .ok (.iastore, 1) := by decide +kernel
theorem dX12_keep_182 : decode cX12_keep 182 = .ok (.iload_n 2, 1) := by decide +kernel
theorem dX12_keep_183 : decode cX12_keep 183 = .ok (.bipush 12, 2) := by decide +kernel
theorem dX12_keep_185 : decode cX12_keep 185 = .ok (.if_icmp .gt 31, 3) := by decide +kernel
theorem dX12_keep_188 : decode cX12_keep 188 = .ok (.aload_n 0, 1) := by decide +kernel
theorem dX12_keep_189 : decode cX12_keep 189 = .ok (.getfield 49, 3) := by decide +kernel
theorem dX12_keep_192 : decode cX12_keep 192 = .ok (.iload_n 1, 1) := by decide +kernel
theorem dX12_keep_193 : decode cX12_keep 193 = .ok (.iaload, 1) := by decide +kernel
theorem dX12_keep_194 : decode cX12_keep 194 = .ok (.ifCond .eq 22, 3) := by decide +kernel
theorem dX12_keep_197 : decode cX12_keep 197 = .ok (.aload_n 0, 1) := by decide +kernel
theorem dX12_keep_198 : decode cX12_keep 198 = .ok (.getfield 23, 3) := by decide +kernel
theorem dX12_keep_201 : decode cX12_keep 201 = .ok (.aload_n 0, 1) := by decide +kernel
theorem dX12_keep_202 : decode cX12_keep 202 = .ok (.getfield 49, 3) := by decide +kernel
theorem dX12_keep_205 : decode cX12_keep 205 = .ok (.iload_n 1, 1) := by decide +kernel
theorem dX12_keep_206 : decode cX12_keep 206 = .ok (.iaload, 1) := by decide +kernel
theorem dX12_keep_207 : decode cX12_keep 207 = .ok (.iconst 0, 1) := by decide +kernel
theorem dX12_keep_208 : decode cX12_keep 208 = .ok (.bastore, 1) := by decide +kernel
theorem dX12_keep_209 : decode cX12_keep 209 = .ok (.aload_n 0, 1) := by decide +kernel
theorem dX12_keep_210 : decode cX12_keep 210 = .ok (.getfield 49, 3) := by decide +kernel
theorem dX12_keep_213 : decode cX12_keep 213 = .ok (.iload_n 1, 1) := by decide +kernel
theorem dX12_keep_214 : decode cX12_keep 214 = .ok (.iconst 0, 1) := by decide +kernel
theorem dX12_keep_215 : decode cX12_keep 215 = .ok (.iastore, 1) := by decide +kernel
theorem dX12_keep_216 : decode cX12_keep 216 = .ok (.iload_n 2, 1) := by decide +kernel
theorem dX12_keep_217 : decode cX12_keep 217 = .ok (.sipush 268, 3) := by decide +kernel
theorem dX12_keep_220 : decode cX12_keep 220 = .ok (.if_icmp .gt 31, 3) := by decide +kernel
theorem dX12_keep_223 : decode cX12_keep 223 = .ok (.aload_n 0, 1) := by decide +kernel
