theorem dX0_format_57 : decode cX0_format 57 = .ok (.getfield 23, 3) := by decide +kernel
theorem dX0_format_60 : decode cX0_format 60 = .ok (.iload_n 3, 1) := by decide +kernel
theorem dX0_format_61 : decode cX0_format 61 = .ok (.invokevirtual 123, 3) := by decide +kernel
theorem dX0_format_64 : decode cX0_format 64 = .ok (.iconst 1, 1) := by decide +kernel
theorem dX0_format_65 : decode cX0_format 65 = .ok (.istore 4, 2) := by decide +kernel
theorem dX0_format_67 : decode cX0_format 67 = .ok (.iload 4, 2) := by decide +kernel
theorem dX0_format_69 : decode cX0_format 69 = .ok (.bipush 11, 2) := by decide +kernel
theorem dX0_format_71 : decode cX0_format 71 = .ok (.if_icmp .gt 17, 3) := by decide +kernel
theorem dX0_format_74 : decode cX0_format 74 = .ok (.aload_n 0, 1) := by decide +kernel
theorem dX0_format_75 : decode cX0_format 75 = .ok (.getfield 43, 3) := by decide +kernel
theorem dX0_format_78 : decode cX0_format 78 = .ok (.invokevirtual 126, 3) := by decide +kernel
theorem dX0_format_81 : decode cX0_format 81 = .ok (.pop, 1) := by decide +kernel
theorem dX0_format_82 : decode cX0_format 82 = .ok (.iinc 4 1, 3) := by decide +kernel
theorem dX0_format_85 : decode cX0_format 85 = .ok (.goto (-18), 3) := by decide +kernel
theorem dX0_format_88 : decode cX0_format 88 = .ok (.aload_n 0, 1) := by decide +kernel
theorem dX0_format_89 : decode cX0_format 89 = .ok (.getfield 51, 3) := by decide +kernel
theorem dX0_format_92 : decode cX0_format 92 = .ok (.iconst 2, 1) := by decide +kernel
theorem dX0_format_93 : decode cX0_format 93 = .ok (.iconst 1, 1) := by decide +kernel
theorem dX0_format_94 : decode cX0_format 94 = .ok (.invokevirtual 129, 3) := by decide +kernel
theorem dX0_format_97 : decode cX0_format 97 = .ok (.aload_n 0, 1) := by decide +kernel
theorem dX0_format_98 : decode cX0_format 98 = .ok (.getfield 51, 3) := by decide +kernel
theorem dX0_format_101 : decode cX0_format 101 = .ok (.iconst 2, 1) := by decide +kernel
theorem dX0_format_102 : decode cX0_format 102 = .ok (.iconst 1, 1) := by decide +kernel
theorem dX0_format_103 : decode cX0_format 103 = .ok (.invokevirtual 133, 3) := by decide +kernel
theorem dX0_format_106 : decode cX0_format 106 = .ok (.aload_n 0, 1) := by decide +kernel
theorem dX0_format_107 : decode cX0_format 107 = .ok (.getfield 60, 3) := by decide +kernel
theorem dX0_format_110 : decode cX0_format 110 = .ok (.aload_n 0, 1) := by decide +kernel
theorem dX0_format_111 : decode cX0_format 111 = .ok (.getfield 51, 3) := by decide +kernel
theorem dX0_format_114 : decode cX0_format 114 = .ok (.iconst 2, 1) := by decide +kernel
theorem dX0_format_115 : decode cX0_format 115 = .ok (.invokevirtual 136, 3) := by decide +kernel
theorem dX0_format_118 : decode cX0_format 118 = .ok (.iconst 2, 1) := by decide +kernel
theorem dX0_format_119 : decode cX0_format 119 = .ok (.iconst 2, 1) := by decide +kernel
theorem dX0_format_120 : decode cX0_format 120 = .ok (.invokevirtual 139, 3) := by decide +kernel
theorem dX0_format_123 : decode cX0_format 123 = .ok (.aload_n 0, 1) := by decide +kernel
theorem dX0_format_124 : decode cX0_format 124 = .ok (.iconst 1, 1) := by decide +kernel
theorem dX0_format_125 : decode cX0_format 125 = .ok (.putfield 142, 3) := by decide +kernel
theorem dX0_format_128 : decode cX0_format 128 = .ok (.aload_n 0, 1) := by decide +kernel
theorem dX0_format_129 : decode cX0_format 129 = .ok (.iconst 2, 1) := by decide +kernel
theorem dX0_format_130 : decode cX0_format 130 = .ok (.putfield 89, 3) := by decide +kernel
theorem dX0_format_133 : decode cX0_format 133 = .ok (.aload_n 0, 1) := by decide +kernel
theorem dX0_format_134 : decode cX0_format 134 = .ok (.getfield 39, 3) := by decide +kernel
theorem dX0_format_137 : decode cX0_format 137 = .ok (.invokevirtual 146, 3) := by decide +kernel
theorem dX0_format_140 : decode cX0_format 140 = .ok (.ireturn, 1) := by decide +kernel
theorem dX2_choose_0 : decode cX2_choose 0 = .ok (.iload_n 1, 1) := by decide +kernel
theorem dX2_choose_1 : decode cX2_choose 1 = .ok (.bipush 64, 2) := by decide +kernel
theorem dX2_choose_3 : decode cX2_choose 3 = .ok (.if_icmp .eq 17, 3) := by decide +kernel
theorem dX2_choose_6 : decode cX2_choose 6 = .ok (.iload_n 1, 1) := by decide +kernel
theorem dX2_choose_7 : decode cX2_choose 7 = .ok (.sipush 128, 3) := by decide +kernel
theorem dX2_choose_10 : decode cX2_choose 10 = .ok (.if_icmp .eq 10, 3) := by decide +kernel
theorem dX2_choose_13 : decode cX2_choose 13 = .ok (.iload_n 1, 1) := by decide +kernel
theorem dX2_choose_14 : decode cX2_choose 14 = .ok (.sipush 256, 3) := by decide +kernel
theorem dX2_choose_17 : decode cX2_choose 17 = .ok (.if_icmp .ne 7, 3) := by decide +kernel
theorem dX2_choose_20 : decode cX2_choose 20 = .ok (.iconst 1, 1) := by decide +kernel
theorem dX2_choose_21 : decode cX2_choose 21 = .ok (.goto 4, 3) := by decide +kernel
theorem dX2_choose_24 : decode cX2_choose 24 = .ok (.iconst 0, 1) := by decide +kernel
theorem dX2_choose_25 : decode cX2_choose 25 = .ok (.istore_n 3, 1) := by decide +kernel
theorem dX2_choose_26 : decode cX2_choose 26 = .ok (.iload_n 3, 1) := by decide +kernel
theorem dX2_choose_27 : decode cX2_choose 27 = .ok (.ifCond .eq 16, 3) := by decide +kernel
theorem dX2_choose_30 : decode cX2_choose 30 = .ok (.iload_n 2, 1) := by decide +kernel
theorem dX2_choose_31 : decode cX2_choose 31 = .ok (.bipush 12, 2) := by decide +kernel
theorem dX2_choose_33 : decode cX2_choose 33 = .ok (.if_icmp .lt 10, 3) := by decide +kernel
theorem dX2_choose_36 : decode cX2_choose 36 = .ok (.iload_n 2, 1) := by decide +kernel
theorem dX2_choose_37 : decode cX2_choose 37 = .ok (.sipush 2000, 3) := by decide +kernel
theorem dX2_choose_40 : decode cX2_choose 40 = .ok (.if_icmp .le 5, 3) := by decide +kernel
theorem dX2_choose_43 : decode cX2_choose 43 = .ok (.iconst 0, 1) := by decide +kernel
theorem dX2_choose_44 : decode cX2_choose 44 = .ok (.ireturn, 1) := by decide +kernel
theorem dX2_choose_45 : decode cX2_choose 45 = .ok (.aload_n 0, 1) := by decide +kernel
theorem dX2_choose_46 : decode cX2_choose 46 = .ok (.getfield 9, 3) := by decide +kernel
theorem dX2_choose_49 : decode cX2_choose 49 = .ok (.iconst 1, 1) := by decide +kernel
theorem dX2_choose_50 : decode cX2_choose 50 = .ok (.isub, 1) := by decide +kernel
theorem dX2_choose_51 : decode cX2_choose 51 = .ok (.iload_n 1, 1) := by decide +kernel
theorem dX2_choose_52 : decode cX2_choose 52 = .ok (.iadd, 1) := by decide +kernel
theorem dX2_choose_53 : decode cX2_choose 53 = .ok (.iconst 1, 1) := by decide +kernel
theorem dX2_choose_54 : decode cX2_choose 54 = .ok (.isub, 1) := by decide +kernel
theorem dX2_choose_55 : decode cX2_choose 55 = .ok (.iload_n 1, 1) := by decide +kernel
theorem dX2_choose_56 : decode cX2_choose 56 = .ok (.idiv, 1) := by decide +kernel
theorem dX2_choose_57 : decode cX2_choose 57 = .ok (.istore 4, 2) := by decide +kernel
theorem dX2_choose_59 : decode cX2_choose 59 = .ok (.iload 4, 2) := by decide +kernel
theorem dX2_choose_61 : decode cX2_choose 61 = .ok (.iconst 1, 1) := by decide +kernel
theorem dX2_choose_62 : decode cX2_choose 62 = .ok (.if_icmp .ge 5, 3) := by decide +kernel
theorem dX2_choose_65 : decode cX2_choose 65 = .ok (.iconst 0, 1) := by decide +kernel
theorem dX2_choose_66 : decode cX2_choose 66 = .ok (.ireturn, 1) := by decide +kernel
theorem dX2_choose_67 : decode cX2_choose 67 = .ok (.iload_n 2, 1) := by decide +kernel
theorem dX2_choose_68 : decode cX2_choose 68 = .ok (.bipush 8, 2) := by decide +kernel
theorem dX2_choose_70 : decode cX2_choose 70 = .ok (.iload 4, 2) := by decide +kernel
theorem dX2_choose_72 : decode cX2_choose 72 = .ok (.imul, 1) := by decide +kernel
theorem dX2_choose_73 : decode cX2_choose 73 = .ok (.iadd, 1) := by decide +kernel
theorem dX2_choose_74 : decode cX2_choose 74 = .ok (.iconst 1, 1) := by decide +kernel
theorem dX2_choose_75 : decode cX2_choose 75 = .ok (.isub, 1) := by decide +kernel
theorem dX2_choose_76 : decode cX2_choose 76 = .ok (.bipush 8, 2) := by decide +kernel
theorem dX2_choose_78 : decode cX2_choose 78 = .ok (.iload 4, 2) := by decide +kernel
theorem dX2_choose_80 : decode cX2_choose 80 = .ok (.imul, 1) := by decide +kernel
theorem dX2_choose_81 : decode cX2_choose 81 = .ok (.idiv, 1) := by decide +kernel
theorem dX2_choose_82 : decode cX2_choose 82 = .ok (.istore 5, 2) := by decide +kernel
theorem dX2_choose_84 : decode cX2_choose 84 = .ok (.aload_n 0, 1) := by decide +kernel
theorem dX2_choose_85 : decode cX2_choose 85 = .ok (.getfield 9, 3) := by decide +kernel
theorem dX2_choose_88 : decode cX2_choose 88 = .ok (.iconst 1, 1) := by decide +kernel
theorem dX2_choose_89 : decode cX2_choose 89 = .ok (.isub, 1) := by decide +kernel
theorem dX2_choose_90 : decode cX2_choose 90 = .ok (.iload 4, 2) := by decide +kernel
theorem dX2_choose_92 : decode cX2_choose 92 = .ok (.iconst 1, 1) := by decide +kernel
theorem dX2_choose_93 : decode cX2_choose 93 = .ok (.isub, 1) := by decide +kernel
theorem dX2_choose_94 : decode cX2_choose 94 = .ok (.iload_n 1, 1) := by decide +kernel
theorem dX2_choose_95 : decode cX2_choose 95 = .ok (.imul, 1) := by decide +kernel
theorem dX2_choose_96 : decode cX2_choose 96 = .ok (.isub, 1) := by decide +kernel
theorem dX2_choose_97 : decode cX2_choose 97 = .ok (.istore 6, 2) := by decide +kernel
theorem dX2_choose_99 : decode cX2_choose 99 = .ok (.iload 6, 2) := by decide +kernel
theorem dX2_choose_101 : decode cX2_choose 101 = .ok (.iconst 4, 1) := by decide +kernel
theorem dX2_choose_102 : decode cX2_choose 102 = .ok (.iload 5, 2) := by decide +kernel
theorem dX2_choose_104 : decode cX2_choose 104 = .ok (.iadd, 1) := by decide +kernel
theorem dX2_choose_105 : decode cX2_choose 105 = .ok (.bipush 8, 2) := by decide +kernel
theorem dX2_choose_107 : decode cX2_choose 107 = .ok (.iadd, 1) := by decide +kernel
theorem dX2_choose_108 : decode cX2_choose 108 = .ok (.if_icmp .ge 5, 3) := by decide +kernel
theorem dX2_choose_111 : decode cX2_choose 111 = .ok (.iconst 0, 1) := by decide +kernel
theorem dX2_choose_112 : decode cX2_choose 112 = .ok (.ireturn, 1) := by decide +kernel
theorem dX2_choose_113 : decode cX2_choose 113 = .ok (.aload_n 0, 1) := by decide +kernel
theorem dX2_choose_114 : decode cX2_choose 114 = .ok (.iload_n 1, 1) := by decide +kernel
theorem dX2_choose_115 : decode cX2_choose 115 = .ok (.putfield 15, 3) := by decide +kernel
theorem dX2_choose_118 : decode cX2_choose 118 = .ok (.aload_n 0, 1) := by decide +kernel
theorem dX2_choose_119 : decode cX2_choose 119 = .ok (.iload 4, 2) := by decide +kernel
theorem dX2_choose_121 : decode cX2_choose 121 = .ok (.putfield 18, 3) := by decide +kernel
theorem dX2_choose_124 : decode cX2_choose 124 = .ok (.aload_n 0, 1) := by decide +kernel
theorem dX2_choose_125 : decode cX2_choose 125 = .ok (.bipush 8, 2) := by decide +kernel
theorem dX2_choose_127 : decode cX2_choose 127 = .ok (.iload 5, 2) := by decide +kernel
theorem dX2_choose_129 : decode cX2_choose 129 = .ok (.imul, 1) := by decide +kernel
theorem dX2_choose_130 : decode cX2_choose 130 = .ok (.putfield 21, 3) := by decide +kernel
theorem dX2_choose_133 : decode cX2_choose 133 = .ok (.iconst 1, 1) := by decide +kernel
theorem dX2_choose_134 : decode cX2_choose 134 = .ok (.ireturn, 1) := by decide +kernel
theorem dX3_lay_0 : decode cX3_lay 0 = .ok (.aload_n 0, 1) := by decide +kernel
theorem dX3_lay_1 : decode cX3_lay 1 = .ok (.aload_n 0, 1) := by decide +kernel
theorem dX3_lay_2 : decode cX3_lay 2 = .ok (.getfield 19, 3) := by decide +kernel
theorem dX3_lay_5 : decode cX3_lay 5 = .ok (.iconst 2, 1) := by decide +kernel
theorem dX3_lay_6 : decode cX3_lay 6 = .ok (.if_icmp .ne 13, 3) := by decide +kernel
theorem dX3_lay_9 : decode cX3_lay 9 = .ok (.aload_n 0, 1) := by decide +kernel
theorem dX3_lay_10 : decode cX3_lay 10 = .ok (.getfield 15, 3) := by decide +kernel
theorem dX3_lay_13 : decode cX3_lay 13 = .ok (.invokevirtual 39, 3) := by decide +kernel
theorem dX3_lay_16 : decode cX3_lay 16 = .ok (.goto 10, 3) := by decide +kernel
theorem dX3_lay_19 : decode cX3_lay 19 = .ok (.aload_n 0, 1) := by decide +kernel
theorem dX3_lay_20 : decode cX3_lay 20 = .ok (.getfield 15, 3) := by decide +kernel
theorem dX3_lay_23 : decode cX3_lay 23 = .ok (.invokevirtual 35, 3) := by decide +kernel
theorem dX3_lay_26 : decode cX3_lay 26 = .ok (.putfield 42, 3) := by decide +kernel
theorem dX3_lay_29 : decode cX3_lay 29 = .ok (.aload_n 0, 1) := by decide +kernel
theorem dX3_lay_30 : decode cX3_lay 30 = .ok (.getfield 19, 3) := by decide +kernel
theorem dX3_lay_33 : decode cX3_lay 33 = .ok (.iconst 2, 1) := by decide +kernel
theorem dX3_lay_34 : decode cX3_lay 34 = .ok (.if_icmp .ne 13, 3) := by decide +kernel
theorem dX3_lay_37 : decode cX3_lay 37 = .ok (.aload_n 0, 1) := by decide +kernel
theorem dX3_lay_38 : decode cX3_lay 38 = .ok (.getfield 15, 3) := by decide +kernel
theorem dX3_lay_41 : decode cX3_lay 41 = .ok (.invokevirtual 45, 3) := by decide +kernel
theorem dX3_lay_44 : decode cX3_lay 44 = .ok (.goto 4, 3) := by decide +kernel
theorem dX3_lay_47 : decode cX3_lay 47 = .ok (.iconst 0, 1) := by decide +kernel
theorem dX3_lay_48 : decode cX3_lay 48 = .ok (.istore_n 1, 1) := by decide +kernel
theorem dX3_lay_49 : decode cX3_lay 49 = .ok (.iconst 0, 1) := by decide +kernel
theorem dX3_lay_50 : decode cX3_lay 50 = .ok (.istore_n 2, 1) := by decide +kernel
theorem dX3_lay_51 : decode cX3_lay 51 = .ok (.iload_n 2, 1) := by decide +kernel
theorem dX3_lay_52 : decode cX3_lay 52 = .ok (.aload_n 0, 1) := by decide +kernel
theorem dX3_lay_53 : decode cX3_lay 53 = .ok (.getfield 15, 3) := by decide +kernel
theorem dX3_lay_56 : decode cX3_lay 56 = .ok (.invokevirtual 48, 3) := by decide +kernel
theorem dX3_lay_59 : decode cX3_lay 59 = .ok (.if_icmp .ge 95, 3) := by decide +kernel
theorem dX3_lay_62 : decode cX3_lay 62 = .ok (.aload_n 0, 1) := by decide +kernel
theorem dX3_lay_63 : decode cX3_lay 63 = .ok (.getfield 15, 3) := by decide +kernel
theorem dX3_lay_66 : decode cX3_lay 66 = .ok (.iload_n 2, 1) := by decide +kernel
theorem dX3_lay_67 : decode cX3_lay 67 = .ok (.aload_n 0, 1) := by decide +kernel
theorem dX3_lay_68 : decode cX3_lay 68 = .ok (.getfield 19, 3) := by decide +kernel
theorem dX3_lay_71 : decode cX3_lay 71 = .ok (.invokevirtual 51, 3) := by decide +kernel
theorem dX3_lay_74 : decode cX3_lay 74 = .ok (.istore_n 3, 1) := by decide +kernel
theorem dX3_lay_75 : decode cX3_lay 75 = .ok (.aload_n 0, 1) := by decide +kernel
theorem dX3_lay_76 : decode cX3_lay 76 = .ok (.getfield 9, 3) := by decide +kernel
theorem dX3_lay_79 : decode cX3_lay 79 = .ok (.iload_n 3, 1) := by decide +kernel
theorem dX3_lay_80 : decode cX3_lay 80 = .ok (.iload_n 3, 1) := by decide +kernel
theorem dX3_lay_81 : decode cX3_lay 81 = .ok (.sipush 1024, 3) := by decide +kernel
theorem dX3_lay_84 : decode cX3_lay 84 = .ok (.iadd, 1) := by decide +kernel
theorem dX3_lay_85 : decode cX3_lay 85 = .ok (.sipush 255, 3) := by decide +kernel
theorem dX3_lay_88 : decode cX3_lay 88 = .ok (.invokevirtual 55, 3) := by decide +kernel
theorem dX3_lay_91 : decode cX3_lay 91 = .ok (.iload_n 1, 1) := by decide +kernel
theorem dX3_lay_92 : decode cX3_lay 92 = .ok (.istore 4, 2) := by decide +kernel
theorem dX3_lay_94 : decode cX3_lay 94 = .ok (.iload 4, 2) := by decide +kernel
theorem dX3_lay_96 : decode cX3_lay 96 = .ok (.aload_n 0, 1) := by decide +kernel
theorem dX3_lay_97 : decode cX3_lay 97 = .ok (.iload_n 2, 1) := by decide +kernel
theorem dX3_lay_98 : decode cX3_lay 98 = .ok (.invokevirtual 61, 3) := by decide +kernel
theorem dX3_lay_101 : decode cX3_lay 101 = .ok (.if_icmp .ge 47, 3) := by decide +kernel
theorem dX3_lay_104 : decode cX3_lay 104 = .ok (.aload_n 0, 1) := by decide +kernel
theorem dX3_lay_105 : decode cX3_lay 105 = .ok (.getfield 9, 3) := by decide +kernel
theorem dX3_lay_108 : decode cX3_lay 108 = .ok (.iload_n 3, 1) := by decide +kernel
theorem dX3_lay_109 : decode cX3_lay 109 = .ok (.iload 4, 2) := by decide +kernel
theorem dX3_lay_111 : decode cX3_lay 111 = .ok (.bipush 8, 2) := by decide +kernel
theorem dX3_lay_113 : decode cX3_lay 113 = .ok (.idiv, 1) := by decide +kernel
theorem dX3_lay_114 : decode cX3_lay 114 = .ok (.iadd, 1) := by decide +kernel
theorem dX3_lay_115 : decode cX3_lay 115 = .ok (.aload_n 0, 1) := by decide +kernel
theorem dX3_lay_116 : decode cX3_lay 116 = .ok (.getfield 9, 3) := by decide +kernel
theorem dX3_lay_119 : decode cX3_lay 119 = .ok (.iload_n 3, 1) := by decide +kernel
theorem dX3_lay_120 : decode cX3_lay 120 = .ok (.iload 4, 2) := by decide +kernel
theorem dX3_lay_122 : decode cX3_lay 122 = .ok (.bipush 8, 2) := by decide +kernel
theorem dX3_lay_124 : decode cX3_lay 124 = .ok (.idiv, 1) := by decide +kernel
theorem dX3_lay_125 : decode cX3_lay 125 = .ok (.iadd, 1) := by decide +kernel
theorem dX3_lay_126 : decode cX3_lay 126 = .ok (.invokevirtual 64, 3) := by decide +kernel
theorem dX3_lay_129 : decode cX3_lay 129 = .ok (.iconst 1, 1) := by decide +kernel
theorem dX3_lay_130 : decode cX3_lay 130 = .ok (.iload 4, 2) := by decide +kernel
theorem dX3_lay_132 : decode cX3_lay 132 = .ok (.bipush 8, 2) := by decide +kernel
theorem dX3_lay_134 : decode cX3_lay 134 = .ok (.irem, 1) := by decide +kernel
theorem dX3_lay_135 : decode cX3_lay 135 = .ok (.ishl, 1) := by decide +kernel
theorem dX3_lay_136 : decode cX3_lay 136 = .ok (.iconst (-1), 1) := by decide +kernel
theorem dX3_lay_137 : decode cX3_lay 137 = .ok (.ixor, 1) := by decide +kernel
theorem dX3_lay_138 : decode cX3_lay 138 = .ok (.iand, 1) := by decide +kernel
theorem dX3_lay_139 : decode cX3_lay 139 = .ok (.invokevirtual 67, 3) := by decide +kernel
theorem dX3_lay_142 : decode cX3_lay 142 = .ok (.iinc 4 1, 3) := by decide +kernel
theorem dX3_lay_145 : decode cX3_lay 145 = .ok (.goto (-51), 3) := by decide +kernel
theorem dX3_lay_148 : decode cX3_lay 148 = .ok (.iinc 2 1, 3) := by decide +kernel
theorem dX3_lay_151 : decode cX3_lay 151 = .ok (.goto (-100), 3) := by decide +kernel
theorem dX3_lay_154 : decode cX3_lay 154 = .ok (.return_, 1) := by decide +kernel
theorem dX1_put_0 : decode cX1_put 0 = .ok (.iload_n 1, 1) := by decide +kernel
theorem dX1_put_1 : decode cX1_put 1 = .ok (.ifCond .lt 20, 3) := by decide +kernel
theorem dX1_put_4 : decode cX1_put 4 = .ok (.iload_n 1, 1) := by decide +kernel
theorem dX1_put_5 : decode cX1_put 5 = .ok (.aload_n 0, 1) := by decide +kernel
theorem dX1_put_6 : decode cX1_put 6 = .ok (.getfield 15, 3) := by decide +kernel
theorem dX1_put_9 : decode cX1_put 9 = .ok (.arraylength, 1) := by decide +kernel
theorem dX1_put_10 : decode cX1_put 10 = .ok (.if_icmp .ge 11, 3) := by decide +kernel
theorem dX1_put_13 : decode cX1_put 13 = .ok (.aload_n 0, 1) := by decide +kernel
theorem dX1_put_14 : decode cX1_put 14 = .ok (.getfield 15, 3) := by decide +kernel
theorem dX1_put_17 : decode cX1_put 17 = .ok (.iload_n 1, 1) := by decide +kernel
theorem dX1_put_18 : decode cX1_put 18 = .ok (.iload_n 2, 1) := by decide +kernel
theorem dX1_put_19 : decode cX1_put 19 = .ok (.i2b, 1) := by decide +kernel
theorem dX1_put_20 : decode cX1_put 20 = .ok (.bastore, 1) := by decide +kernel
theorem dX1_put_21 : decode cX1_put 21 = .ok (.return_, 1) := by decide +kernel
theorem dX6_lay_0 : decode cX6_lay 0 = .ok (.aload_n 0, 1) := by decide +kernel
theorem dX6_lay_1 : decode cX6_lay 1 = .ok (.aload_n 1, 1) := by decide +kernel
theorem dX6_lay_2 : decode cX6_lay 2 = .ok (.sipush 1024, 3) := by decide +kernel
theorem dX6_lay_5 : decode cX6_lay 5 = .ok (.iload_n 2, 1) := by decide +kernel
theorem dX6_lay_6 : decode cX6_lay 6 = .ok (.invokevirtual 26, 3) := by decide +kernel
theorem dX6_lay_9 : decode cX6_lay 9 = .ok (.iconst 1, 1) := by decide +kernel
theorem dX6_lay_10 : decode cX6_lay 10 = .ok (.istore_n 3, 1) := by decide +kernel
theorem dX6_lay_11 : decode cX6_lay 11 = .ok (.iload_n 3, 1) := by decide +kernel
theorem dX6_lay_12 : decode cX6_lay 12 = .ok (.aload_n 0, 1) := by decide +kernel
theorem dX6_lay_13 : decode cX6_lay 13 = .ok (.getfield 9, 3) := by decide +kernel
theorem dX6_lay_16 : decode cX6_lay 16 = .ok (.invokevirtual 30, 3) := by decide +kernel
theorem dX6_lay_19 : decode cX6_lay 19 = .ok (.if_icmp .ge 42, 3) := by decide +kernel
theorem dX6_lay_22 : decode cX6_lay 22 = .ok (.aload_n 0, 1) := by decide +kernel
theorem dX6_lay_23 : decode cX6_lay 23 = .ok (.getfield 9, 3) := by decide +kernel
theorem dX6_lay_26 : decode cX6_lay 26 = .ok (.iload_n 3, 1) := by decide +kernel
theorem dX6_lay_27 : decode cX6_lay 27 = .ok (.iconst 0, 1) := by decide +kernel
theorem dX6_lay_28 : decode cX6_lay 28 = .ok (.invokevirtual 36, 3) := by decide +kernel
theorem dX6_lay_31 : decode cX6_lay 31 = .ok (.istore 4, 2) := by decide +kernel
theorem dX6_lay_33 : decode cX6_lay 33 = .ok (.aload_n 1, 1) := by decide +kernel
theorem dX6_lay_34 : decode cX6_lay 34 = .ok (.sipush 1024, 3) := by decide +kernel
theorem dX6_lay_37 : decode cX6_lay 37 = .ok (.iload 4, 2) := by decide +kernel
theorem dX6_lay_39 : decode cX6_lay 39 = .ok (.sipush 2048, 3) := by decide +kernel
theorem dX6_lay_42 : decode cX6_lay 42 = .ok (.invokevirtual 40, 3) := by decide +kernel
theorem dX6_lay_45 : decode cX6_lay 45 = .ok (.aload_n 1, 1) := by decide +kernel
theorem dX6_lay_46 : decode cX6_lay 46 = .ok (.iload 4, 2) := by decide +kernel
theorem dX6_lay_48 : decode cX6_lay 48 = .ok (.bipush 90, 2) := by decide +kernel
theorem dX6_lay_50 : decode cX6_lay 50 = .ok (.iadd, 1) := by decide +kernel
theorem dX6_lay_51 : decode cX6_lay 51 = .ok (.iload_n 3, 1) := by decide +kernel
theorem dX6_lay_52 : decode cX6_lay 52 = .ok (.invokevirtual 46, 3) := by decide +kernel
theorem dX6_lay_55 : decode cX6_lay 55 = .ok (.iinc 3 1, 3) := by decide +kernel
theorem dX6_lay_58 : decode cX6_lay 58 = .ok (.goto (-47), 3) := by decide +kernel
theorem dX6_lay_61 : decode cX6_lay 61 = .ok (.return_, 1) := by decide +kernel
theorem dX1_copy_0 : decode cX1_copy 0 = .ok (.iload_n 3, 1) := by decide +kernel
theorem dX1_copy_1 : decode cX1_copy 1 = .ok (.ifCond .lt 47, 3) := by decide +kernel
theorem dX1_copy_4 : decode cX1_copy 4 = .ok (.iload_n 1, 1) := by decide +kernel
theorem dX1_copy_5 : decode cX1_copy 5 = .ok (.ifCond .lt 43, 3) := by decide +kernel
theorem dX1_copy_8 : decode cX1_copy 8 = .ok (.iload_n 2, 1) := by decide +kernel
theorem dX1_copy_9 : decode cX1_copy 9 = .ok (.ifCond .lt 39, 3) := by decide +kernel
theorem dX1_copy_12 : decode cX1_copy 12 = .ok (.iload_n 1, 1) := by decide +kernel
theorem dX1_copy_13 : decode cX1_copy 13 = .ok (.aload_n 0, 1) := by decide +kernel
theorem dX1_copy_14 : decode cX1_copy 14 = .ok (.getfield 15, 3) := by decide +kernel
theorem dX1_copy_17 : decode cX1_copy 17 = .ok (.arraylength, 1) := by decide +kernel
theorem dX1_copy_18 : decode cX1_copy 18 = .ok (.iload_n 3, 1) := by decide +kernel
theorem dX1_copy_19 : decode cX1_copy 19 = .ok (.isub, 1) := by decide +kernel
theorem dX1_copy_20 : decode cX1_copy 20 = .ok (.if_icmp .gt 28, 3) := by decide +kernel
theorem dX1_copy_23 : decode cX1_copy 23 = .ok (.iload_n 2, 1) := by decide +kernel
theorem dX1_copy_24 : decode cX1_copy 24 = .ok (.aload_n 0, 1) := by decide +kernel
theorem dX1_copy_25 : decode cX1_copy 25 = .ok (.getfield 15, 3) := by decide +kernel
theorem dX1_copy_28 : decode cX1_copy 28 = .ok (.arraylength, 1) := by decide +kernel
theorem dX1_copy_29 : decode cX1_copy 29 = .ok (.iload_n 3, 1) := by decide +kernel
theorem dX1_copy_30 : decode cX1_copy 30 = .ok (.isub, 1) := by decide +kernel
theorem dX1_copy_31 : decode cX1_copy 31 = .ok (.if_icmp .gt 17, 3) := by decide +kernel
theorem dX1_copy_34 : decode cX1_copy 34 = .ok (.aload_n 0, 1) := by decide +kernel
theorem dX1_copy_35 : decode cX1_copy 35 = .ok (.getfield 15, 3) := by decide +kernel
theorem dX1_copy_38 : decode cX1_copy 38 = .ok (.iload_n 1, 1) := by decide +kernel
theorem dX1_copy_39 : decode cX1_copy 39 = .ok (.aload_n 0, 1) := by decide +kernel
theorem dX1_copy_40 : decode cX1_copy 40 = .ok (.getfield 15, 3) := by decide +kernel
theorem dX1_copy_43 : decode cX1_copy 43 = .ok (.iload_n 2, 1) := by decide +kernel
theorem dX1_copy_44 : decode cX1_copy 44 = .ok (.iload_n 3, 1) := by decide +kernel
theorem dX1_copy_45 : decode cX1_copy 45 = .ok (.invokestatic 27, 3) := by decide +kernel
theorem dX1_copy_48 : decode cX1_copy 48 = .ok (.return_, 1) := by decide +kernel
theorem dX3_take_0 : decode cX3_take 0 = .ok (.iconst 0, 1) := by decide +kernel
theorem dX3_take_1 : decode cX3_take 1 = .ok (.istore_n 1, 1) := by decide +kernel
theorem dX3_take_2 : decode cX3_take 2 = .ok (.iload_n 1, 1) := by decide +kernel
theorem dX3_take_3 : decode cX3_take 3 = .ok (.aload_n 0, 1) := by decide +kernel
theorem dX3_take_4 : decode cX3_take 4 = .ok (.getfield 15, 3) := by decide +kernel
theorem dX3_take_7 : decode cX3_take 7 = .ok (.invokevirtual 48, 3) := by decide +kernel
theorem dX3_take_10 : decode cX3_take 10 = .ok (.if_icmp .ge 96, 3) := by decide +kernel
theorem dX3_take_13 : decode cX3_take 13 = .ok (.aload_n 0, 1) := by decide +kernel
theorem dX3_take_14 : decode cX3_take 14 = .ok (.getfield 15, 3) := by decide +kernel
theorem dX3_take_17 : decode cX3_take 17 = .ok (.iload_n 1, 1) := by decide +kernel
theorem dX3_take_18 : decode cX3_take 18 = .ok (.aload_n 0, 1) := by decide +kernel
theorem dX3_take_19 : decode cX3_take 19 = .ok (.getfield 19, 3) := by decide +kernel
theorem dX3_take_22 : decode cX3_take 22 = .ok (.invokevirtual 51, 3) := by decide +kernel
theorem dX3_take_25 : decode cX3_take 25 = .ok (.istore_n 2, 1) := by decide +kernel
theorem dX3_take_26 : decode cX3_take 26 = .ok (.iconst 0, 1) := by decide +kernel
theorem dX3_take_27 : decode cX3_take 27 = .ok (.istore_n 3, 1) := by decide +kernel
theorem dX3_take_28 : decode cX3_take 28 = .ok (.iload_n 3, 1) := by decide +kernel
theorem dX3_take_29 : decode cX3_take 29 = .ok (.aload_n 0, 1) := by decide +kernel
theorem dX3_take_30 : decode cX3_take 30 = .ok (.getfield 42, 3) := by decide +kernel
theorem dX3_take_33 : decode cX3_take 33 = .ok (.bipush 8, 2) := by decide +kernel
theorem dX3_take_35 : decode cX3_take 35 = .ok (.idiv, 1) := by decide +kernel
theorem dX3_take_36 : decode cX3_take 36 = .ok (.if_icmp .ge 64, 3) := by decide +kernel
theorem dX3_take_39 : decode cX3_take 39 = .ok (.aload_n 0, 1) := by decide +kernel
theorem dX3_take_40 : decode cX3_take 40 = .ok (.getfield 9, 3) := by decide +kernel
theorem dX3_take_43 : decode cX3_take 43 = .ok (.iload_n 2, 1) := by decide +kernel
theorem dX3_take_44 : decode cX3_take 44 = .ok (.iload_n 3, 1) := by decide +kernel
theorem dX3_take_45 : decode cX3_take 45 = .ok (.iadd, 1) := by decide +kernel
theorem dX3_take_46 : decode cX3_take 46 = .ok (.invokevirtual 64, 3) := by decide +kernel
theorem dX3_take_49 : decode cX3_take 49 = .ok (.sipush 255, 3) := by decide +kernel
theorem dX3_take_52 : decode cX3_take 52 = .ok (.if_icmp .eq 42, 3) := by decide +kernel
theorem dX3_take_55 : decode cX3_take 55 = .ok (.iconst 1, 1) := by decide +kernel
theorem dX3_take_56 : decode cX3_take 56 = .ok (.iload_n 1, 1) := by decide +kernel
theorem dX3_take_57 : decode cX3_take 57 = .ok (.aload_n 0, 1) := by decide +kernel
theorem dX3_take_58 : decode cX3_take 58 = .ok (.getfield 42, 3) := by decide +kernel
theorem dX3_take_61 : decode cX3_take 61 = .ok (.imul, 1) := by decide +kernel
theorem dX3_take_62 : decode cX3_take 62 = .ok (.iadd, 1) := by decide +kernel
theorem dX3_take_63 : decode cX3_take 63 = .ok (.bipush 8, 2) := by decide +kernel
theorem dX3_take_65 : decode cX3_take 65 = .ok (.iload_n 3, 1) := by decide +kernel
theorem dX3_take_66 : decode cX3_take 66 = .ok (.imul, 1) := by decide +kernel
theorem dX3_take_67 : decode cX3_take 67 = .ok (.iadd, 1) := by decide +kernel
theorem dX3_take_68 : decode cX3_take 68 = .ok (.aload_n 0, 1) := by decide +kernel
theorem dX3_take_69 : decode cX3_take 69 = .ok (.getfield 9, 3) := by decide +kernel
theorem dX3_take_72 : decode cX3_take 72 = .ok (.iload_n 2, 1) := by decide +kernel
theorem dX3_take_73 : decode cX3_take 73 = .ok (.iload_n 3, 1) := by decide +kernel
theorem dX3_take_74 : decode cX3_take 74 = .ok (.iadd, 1) := by decide +kernel
theorem dX3_take_75 : decode cX3_take 75 = .ok (.invokevirtual 64, 3) := by decide +kernel
theorem dX3_take_78 : decode cX3_take 78 = .ok (.invokestatic 79, 3) := by decide +kernel
theorem dX3_take_81 : decode cX3_take 81 = .ok (.iadd, 1) := by decide +kernel
theorem dX3_take_82 : decode cX3_take 82 = .ok (.istore 4, 2) := by decide +kernel
theorem dX3_take_84 : decode cX3_take 84 = .ok (.aload_n 0, 1) := by decide +kernel
theorem dX3_take_85 : decode cX3_take 85 = .ok (.iload 4, 2) := by decide +kernel
theorem dX3_take_87 : decode cX3_take 87 = .ok (.iconst 1, 1) := by decide +kernel
theorem dX3_take_88 : decode cX3_take 88 = .ok (.invokevirtual 82, 3) := by decide +kernel
theorem dX3_take_91 : decode cX3_take 91 = .ok (.iload 4, 2) := by decide +kernel
theorem dX3_take_93 : decode cX3_take 93 = .ok (.ireturn, 1) := by decide +kernel
theorem dX3_take_94 : decode cX3_take 94 = .ok (.iinc 3 1, 3) := by decide +kernel
theorem dX3_take_97 : decode cX3_take 97 = .ok (.goto (-69), 3) := by decide +kernel
theorem dX3_take_100 : decode cX3_take 100 = .ok (.iinc 1 1, 3) := by decide +kernel
theorem dX3_take_103 : decode cX3_take 103 = .ok (.goto (-101), 3) := by decide +kernel
theorem dX3_take_106 : decode cX3_take 106 = .ok (.iconst (-1), 1) := by decide +kernel
theorem dX3_take_107 : decode cX3_take 107 = .ok (.ireturn, 1) := by decide +kernel
theorem dX3_lowestClear_0 : decode cX3_lowestClear 0 = .ok (.iconst 0, 1) := by decide +kernel
theorem dX3_lowestClear_1 : decode cX3_lowestClear 1 = .ok (.istore_n 1, 1) := by decide +kernel
theorem dX3_lowestClear_2 : decode cX3_lowestClear 2 = .ok (.iload_n 1, 1) := by decide +kernel
theorem dX3_lowestClear_3 : decode cX3_lowestClear 3 = .ok (.bipush 7, 2) := by decide +kernel
theorem dX3_lowestClear_5 : decode cX3_lowestClear 5 = .ok (.if_icmp .ge 18, 3) := by decide +kernel
theorem dX3_lowestClear_8 : decode cX3_lowestClear 8 = .ok (.iload_n 0, 1) := by decide +kernel
theorem dX3_lowestClear_9 : decode cX3_lowestClear 9 = .ok (.iload_n 1, 1) := by decide +kernel
theorem dX3_lowestClear_10 : decode cX3_lowestClear 10 = .ok (.ishr, 1) := by decide +kernel
theorem dX3_lowestClear_11 : decode cX3_lowestClear 11 = .ok (.iconst 1, 1) := by decide +kernel
theorem dX3_lowestClear_12 : decode cX3_lowestClear 12 = .ok (.iand, 1) := by decide +kernel
theorem dX3_lowestClear_13 : decode cX3_lowestClear 13 = .ok (.iconst 1, 1) := by decide +kernel
theorem dX3_lowestClear_14 : decode cX3_lowestClear 14 = .ok (.if_icmp .ne 9, 3) := by decide +kernel
theorem dX3_lowestClear_17 : decode cX3_lowestClear 17 = .ok (.iinc 1 1, 3) := by decide +kernel
theorem dX3_lowestClear_20 : decode cX3_lowestClear 20 = .ok (.goto (-18), 3) := by decide +kernel
theorem dX3_lowestClear_23 : decode cX3_lowestClear 23 = .ok (.iload_n 1, 1) := by decide +kernel
theorem dX3_lowestClear_24 : decode cX3_lowestClear 24 = .ok (.ireturn, 1) := by decide +kernel
theorem dX3_mark_0 : decode cX3_mark 0 = .ok (.aload_n 0, 1) := by decide +kernel
theorem dX3_mark_1 : decode cX3_mark 1 = .ok (.getfield 42, 3) := by decide +kernel
theorem dX3_mark_4 : decode cX3_mark 4 = .ok (.iconst 1, 1) := by decide +kernel
theorem dX3_mark_5 : decode cX3_mark 5 = .ok (.if_icmp .ge 4, 3) := by decide +kernel
theorem dX3_mark_8 : decode cX3_mark 8 = .ok (.return_, 1) := by decide +kernel
theorem dX3_mark_9 : decode cX3_mark 9 = .ok (.iload_n 1, 1) := by decide +kernel
theorem dX3_mark_10 : decode cX3_mark 10 = .ok (.iconst 1, 1) := by decide +kernel
theorem dX3_mark_11 : decode cX3_mark 11 = .ok (.isub, 1) := by decide +kernel
theorem dX3_mark_12 : decode cX3_mark 12 = .ok (.aload_n 0, 1) := by decide +kernel
theorem dX3_mark_13 : decode cX3_mark 13 = .ok (.getfield 42, 3) := by decide +kernel
theorem dX3_mark_16 : decode cX3_mark 16 = .ok (.idiv, 1) := by decide +kernel
theorem dX3_mark_17 : decode cX3_mark 17 = .ok (.istore_n 3, 1) := by decide +kernel
theorem dX3_mark_18 : decode cX3_mark 18 = .ok (.iload_n 1, 1) := by decide +kernel
theorem dX3_mark_19 : decode cX3_mark 19 = .ok (.iconst 1, 1) := by decide +kernel
theorem dX3_mark_20 : decode cX3_mark 20 = .ok (.isub, 1) := by decide +kernel
theorem dX3_mark_21 : decode cX3_mark 21 = .ok (.aload_n 0, 1) := by decide +kernel
theorem dX3_mark_22 : decode cX3_mark 22 = .ok (.getfield 42, 3) := by decide +kernel
theorem dX3_mark_25 : decode cX3_mark 25 = .ok (.irem, 1) := by decide +kernel
theorem dX3_mark_26 : decode cX3_mark 26 = .ok (.istore 4, 2) := by decide +kernel
theorem dX3_mark_28 : decode cX3_mark 28 = .ok (.aload_n 0, 1) := by decide +kernel
theorem dX3_mark_29 : decode cX3_mark 29 = .ok (.getfield 15, 3) := by decide +kernel
theorem dX3_mark_32 : decode cX3_mark 32 = .ok (.iload_n 3, 1) := by decide +kernel
theorem dX3_mark_33 : decode cX3_mark 33 = .ok (.aload_n 0, 1) := by decide +kernel
theorem dX3_mark_34 : decode cX3_mark 34 = .ok (.getfield 19, 3) := by decide +kernel
theorem dX3_mark_37 : decode cX3_mark 37 = .ok (.invokevirtual 51, 3) := by decide +kernel
theorem dX3_mark_40 : decode cX3_mark 40 = .ok (.iload 4, 2) := by decide +kernel
theorem dX3_mark_42 : decode cX3_mark 42 = .ok (.bipush 8, 2) := by decide +kernel
theorem dX3_mark_44 : decode cX3_mark 44 = .ok (.idiv, 1) := by decide +kernel
theorem dX3_mark_45 : decode cX3_mark 45 = .ok (.iadd, 1) := by decide +kernel
theorem dX3_mark_46 : decode cX3_mark 46 = .ok (.istore 5, 2) := by decide +kernel
theorem dX3_mark_48 : decode cX3_mark 48 = .ok (.iconst 1, 1) := by decide +kernel
theorem dX3_mark_49 : decode cX3_mark 49 = .ok (.iload 4, 2) := by decide +kernel
theorem dX3_mark_51 : decode cX3_mark 51 = .ok (.bipush 8, 2) := by decide +kernel
theorem dX3_mark_53 : decode cX3_mark 53 = .ok (.irem, 1) := by decide +kernel
theorem dX3_mark_54 : decode cX3_mark 54 = .ok (.ishl, 1) := by decide +kernel
theorem dX3_mark_55 : decode cX3_mark 55 = .ok (.istore 6, 2) := by decide +kernel
theorem dX3_mark_57 : decode cX3_mark 57 = .ok (.aload_n 0, 1) := by decide +kernel
theorem dX3_mark_58 : decode cX3_mark 58 = .ok (.getfield 9, 3) := by decide +kernel
theorem dX3_mark_61 : decode cX3_mark 61 = .ok (.iload 5, 2) := by decide +kernel
theorem dX3_mark_63 : decode cX3_mark 63 = .ok (.iload_n 2, 1) := by decide +kernel
theorem dX3_mark_64 : decode cX3_mark 64 = .ok (.ifCond .eq 18, 3) := by decide +kernel
theorem dX3_mark_67 : decode cX3_mark 67 = .ok (.aload_n 0, 1) := by decide +kernel
theorem dX3_mark_68 : decode cX3_mark 68 = .ok (.getfield 9, 3) := by decide +kernel
theorem dX3_mark_71 : decode cX3_mark 71 = .ok (.iload 5, 2) := by decide +kernel
theorem dX3_mark_73 : decode cX3_mark 73 = .ok (.invokevirtual 64, 3) := by decide +kernel
theorem dX3_mark_76 : decode cX3_mark 76 = .ok (.iload 6, 2) := by decide +kernel
theorem dX3_mark_78 : decode cX3_mark 78 = .ok (.ior, 1) := by decide +kernel
theorem dX3_mark_79 : decode cX3_mark 79 = .ok (.goto 17, 3) := by decide +kernel
theorem dX3_mark_82 : decode cX3_mark 82 = .ok (.aload_n 0, 1) := by decide +kernel
theorem dX3_mark_83 : decode cX3_mark 83 = .ok (.getfield 9, 3) := by decide +kernel
theorem dX3_mark_86 : decode cX3_mark 86 = .ok (.iload 5, 2) := by decide +kernel
theorem dX3_mark_88 : decode cX3_mark 88 = .ok (.invokevirtual 64, 3) := by decide +kernel
theorem dX3_mark_91 : decode cX3_mark 91 = .ok (.iload 6, 2) := by decide +kernel
theorem dX3_mark_93 : decode cX3_mark 93 = .ok (.iconst (-1), 1) := by decide +kernel
theorem dX3_mark_94 : decode cX3_mark 94 = .ok (.ixor, 1) := by decide +kernel
theorem dX3_mark_95 : decode cX3_mark 95 = .ok (.iand, 1) := by decide +kernel
theorem dX3_mark_96 : decode cX3_mark 96 = .ok (.invokevirtual 67, 3) := by decide +kernel
theorem dX3_mark_99 : decode cX3_mark 99 = .ok (.iload_n 2, 1) := by decide +kernel
theorem dX3_mark_100 : decode cX3_mark 100 = .ok (.ifCond .eq 7, 3) := by decide +kernel
theorem dX3_mark_103 : decode cX3_mark 103 = .ok (.iconst (-1), 1) := by decide +kernel
theorem dX3_mark_104 : decode cX3_mark 104 = .ok (.goto 4, 3) := by decide +kernel
theorem dX3_mark_107 : decode cX3_mark 107 = .ok (.iconst 1, 1) := by decide +kernel
theorem dX3_mark_108 : decode cX3_mark 108 = .ok (.istore 7, 2) := by decide +kernel
theorem dX3_mark_110 : decode cX3_mark 110 = .ok (.iconst 0, 1) := by decide +kernel
theorem dX3_mark_111 : decode cX3_mark 111 = .ok (.istore 8, 2) := by decide +kernel
theorem dX3_mark_113 : decode cX3_mark 113 = .ok (.iload 8, 2) := by decide +kernel
theorem dX3_mark_115 : decode cX3_mark 115 = .ok (.aload_n 0, 1) := by decide +kernel
theorem dX3_mark_116 : decode cX3_mark 116 = .ok (.getfield 15, 3) := by decide +kernel
theorem dX3_mark_119 : decode cX3_mark 119 = .ok (.invokevirtual 48, 3) := by decide +kernel
theorem dX3_mark_122 : decode cX3_mark 122 = .ok (.if_icmp .ge 90, 3) := by decide +kernel
theorem dX3_mark_125 : decode cX3_mark 125 = .ok (.aload_n 0, 1) := by decide +kernel
theorem dX3_mark_126 : decode cX3_mark 126 = .ok (.getfield 15, 3) := by decide +kernel
theorem dX3_mark_129 : decode cX3_mark 129 = .ok (.iload 8, 2) := by decide +kernel
theorem dX3_mark_131 : decode cX3_mark 131 = .ok (.iconst 0, 1) := by decide +kernel
theorem dX3_mark_132 : decode cX3_mark 132 = .ok (.invokevirtual 51, 3) := by decide +kernel
theorem dX3_mark_135 : decode cX3_mark 135 = .ok (.aload_n 0, 1) := by decide +kernel
theorem dX3_mark_136 : decode cX3_mark 136 = .ok (.getfield 23, 3) := by decide +kernel
theorem dX3_mark_139 : decode cX3_mark 139 = .ok (.iadd, 1) := by decide +kernel
theorem dX3_mark_140 : decode cX3_mark 140 = .ok (.istore 9, 2) := by decide +kernel
theorem dX3_mark_142 : decode cX3_mark 142 = .ok (.aload_n 0, 1) := by decide +kernel
theorem dX3_mark_143 : decode cX3_mark 143 = .ok (.getfield 15, 3) := by decide +kernel
theorem dX3_mark_146 : decode cX3_mark 146 = .ok (.iload 8, 2) := by decide +kernel
theorem dX3_mark_148 : decode cX3_mark 148 = .ok (.iconst 1, 1) := by decide +kernel
theorem dX3_mark_149 : decode cX3_mark 149 = .ok (.invokevirtual 51, 3) := by decide +kernel
theorem dX3_mark_152 : decode cX3_mark 152 = .ok (.bipush 32, 2) := by decide +kernel
theorem dX3_mark_154 : decode cX3_mark 154 = .ok (.iload_n 3, 1) := by decide +kernel
theorem dX3_mark_155 : decode cX3_mark 155 = .ok (.imul, 1) := by decide +kernel
theorem dX3_mark_156 : decode cX3_mark 156 = .ok (.iadd, 1) := by decide +kernel
theorem dX3_mark_157 : decode cX3_mark 157 = .ok (.aload_n 0, 1) := by decide +kernel
theorem dX3_mark_158 : decode cX3_mark 158 = .ok (.getfield 26, 3) := by decide +kernel
theorem dX3_mark_161 : decode cX3_mark 161 = .ok (.iadd, 1) := by decide +kernel
theorem dX3_mark_162 : decode cX3_mark 162 = .ok (.istore 10, 2) := by decide +kernel
theorem dX3_mark_164 : decode cX3_mark 164 = .ok (.aload_n 0, 1) := by decide +kernel
theorem dX3_mark_165 : decode cX3_mark 165 = .ok (.getfield 9, 3) := by decide +kernel
theorem dX3_mark_168 : decode cX3_mark 168 = .ok (.iload 9, 2) := by decide +kernel
theorem dX3_mark_170 : decode cX3_mark 170 = .ok (.aload_n 0, 1) := by decide +kernel
theorem dX3_mark_171 : decode cX3_mark 171 = .ok (.getfield 9, 3) := by decide +kernel
theorem dX3_mark_174 : decode cX3_mark 174 = .ok (.iload 9, 2) := by decide +kernel
theorem dX3_mark_176 : decode cX3_mark 176 = .ok (.invokevirtual 71, 3) := by decide +kernel
theorem dX3_mark_179 : decode cX3_mark 179 = .ok (.iload 7, 2) := by decide +kernel
theorem dX3_mark_181 : decode cX3_mark 181 = .ok (.iadd, 1) := by decide +kernel
theorem dX3_mark_182 : decode cX3_mark 182 = .ok (.invokevirtual 90, 3) := by decide +kernel
theorem dX3_mark_185 : decode cX3_mark 185 = .ok (.aload_n 0, 1) := by decide +kernel
theorem dX3_mark_186 : decode cX3_mark 186 = .ok (.getfield 9, 3) := by decide +kernel
theorem dX3_mark_189 : decode cX3_mark 189 = .ok (.iload 10, 2) := by decide +kernel
theorem dX3_mark_191 : decode cX3_mark 191 = .ok (.aload_n 0, 1) := by decide +kernel
theorem dX3_mark_192 : decode cX3_mark 192 = .ok (.getfield 9, 3) := by decide +kernel
theorem dX3_mark_195 : decode cX3_mark 195 = .ok (.iload 10, 2) := by decide +kernel
theorem dX3_mark_197 : decode cX3_mark 197 = .ok (.invokevirtual 93, 3) := by decide +kernel
theorem dX3_mark_200 : decode cX3_mark 200 = .ok (.iload 7, 2) := by decide +kernel
theorem dX3_mark_202 : decode cX3_mark 202 = .ok (.iadd, 1) := by decide +kernel
theorem dX3_mark_203 : decode cX3_mark 203 = .ok (.invokevirtual 96, 3) := by decide +kernel
theorem dX3_mark_206 : decode cX3_mark 206 = .ok (.iinc 8 1, 3) := by decide +kernel
theorem dX3_mark_209 : decode cX3_mark 209 = .ok (.goto (-96), 3) := by decide +kernel
theorem dX3_mark_212 : decode cX3_mark 212 = .ok (.return_, 1) := by decide +kernel
theorem dX4_begin_0 : decode cX4_begin 0 = .ok (.aload_n 0, 1) := by decide +kernel
theorem dX4_begin_1 : decode cX4_begin 1 = .ok (.getfield 15, 3) := by decide +kernel
theorem dX4_begin_4 : decode cX4_begin 4 = .ok (.iload_n 1, 1) := by decide +kernel
theorem dX4_begin_5 : decode cX4_begin 5 = .ok (.invokevirtual 23, 3) := by decide +kernel
theorem dX4_begin_8 : decode cX4_begin 8 = .ok (.istore_n 3, 1) := by decide +kernel
theorem dX4_begin_9 : decode cX4_begin 9 = .ok (.aload_n 0, 1) := by decide +kernel
theorem dX4_begin_10 : decode cX4_begin 10 = .ok (.getfield 9, 3) := by decide +kernel
theorem dX4_begin_13 : decode cX4_begin 13 = .ok (.iload_n 3, 1) := by decide +kernel
theorem dX4_begin_14 : decode cX4_begin 14 = .ok (.iload_n 2, 1) := by decide +kernel
theorem dX4_begin_15 : decode cX4_begin 15 = .ok (.ifCond .eq 9, 3) := by decide +kernel
theorem dX4_begin_18 : decode cX4_begin 18 = .ok (.sipush 16877, 3) := by decide +kernel
theorem dX4_begin_21 : decode cX4_begin 21 = .ok (.goto 5, 3) := by decide +kernel
theorem dX4_begin_24 : decode cX4_begin 24 = .ok (.ldc 60, 2) := by decide +kernel
theorem dX4_begin_26 : decode cX4_begin 26 = .ok (.invokevirtual 41, 3) := by decide +kernel
theorem dX4_begin_29 : decode cX4_begin 29 = .ok (.aload_n 0, 1) := by decide +kernel
theorem dX4_begin_30 : decode cX4_begin 30 = .ok (.getfield 9, 3) := by decide +kernel
theorem dX4_begin_33 : decode cX4_begin 33 = .ok (.iload_n 3, 1) := by decide +kernel
theorem dX4_begin_34 : decode cX4_begin 34 = .ok (.bipush 26, 2) := by decide +kernel
theorem dX4_begin_36 : decode cX4_begin 36 = .ok (.iadd, 1) := by decide +kernel
theorem dX4_begin_37 : decode cX4_begin 37 = .ok (.iload_n 2, 1) := by decide +kernel
theorem dX4_begin_38 : decode cX4_begin 38 = .ok (.ifCond .eq 7, 3) := by decide +kernel
theorem dX4_begin_41 : decode cX4_begin 41 = .ok (.iconst 2, 1) := by decide +kernel
theorem dX4_begin_42 : decode cX4_begin 42 = .ok (.goto 4, 3) := by decide +kernel
theorem dX4_begin_45 : decode cX4_begin 45 = .ok (.iconst 1, 1) := by decide +kernel
theorem dX4_begin_46 : decode cX4_begin 46 = .ok (.invokevirtual 41, 3) := by decide +kernel
theorem dX4_begin_49 : decode cX4_begin 49 = .ok (.return_, 1) := by decide +kernel
theorem dX4_countDirectories_0 : decode cX4_countDirectories 0 = .ok (.aload_n 0, 1) := by decide +kernel
theorem dX4_countDirectories_1 : decode cX4_countDirectories 1 = .ok (.getfield 15, 3) := by decide +kernel
theorem dX4_countDirectories_4 : decode cX4_countDirectories 4 = .ok (.iload_n 1, 1) := by decide +kernel
theorem dX4_countDirectories_5 : decode cX4_countDirectories 5 = .ok (.invokevirtual 54, 3) := by decide +kernel
theorem dX4_countDirectories_8 : decode cX4_countDirectories 8 = .ok (.istore_n 3, 1) := by decide +kernel
theorem dX4_countDirectories_9 : decode cX4_countDirectories 9 = .ok (.iconst 0, 1) := by decide +kernel
theorem dX4_countDirectories_10 : decode cX4_countDirectories 10 = .ok (.istore 4, 2) := by decide +kernel
theorem dX4_countDirectories_12 : decode cX4_countDirectories 12 = .ok (.iload 4, 2) := by decide +kernel
theorem dX4_countDirectories_14 : decode cX4_countDirectories 14 = .ok (.aload_n 0, 1) := by decide +kernel
theorem dX4_countDirectories_15 : decode cX4_countDirectories 15 = .ok (.getfield 15, 3) := by decide +kernel
theorem dX4_countDirectories_18 : decode cX4_countDirectories 18 = .ok (.invokevirtual 57, 3) := by decide +kernel
theorem dX4_countDirectories_21 : decode cX4_countDirectories 21 = .ok (.if_icmp .ge 49, 3) := by decide +kernel
theorem dX4_countDirectories_24 : decode cX4_countDirectories 24 = .ok (.aload_n 0, 1) := by decide +kernel
theorem dX4_countDirectories_25 : decode cX4_countDirectories 25 = .ok (.getfield 15, 3) := by decide +kernel
theorem dX4_countDirectories_28 : decode cX4_countDirectories 28 = .ok (.iload 4, 2) := by decide +kernel
theorem dX4_countDirectories_30 : decode cX4_countDirectories 30 = .ok (.iconst 1, 1) := by decide +kernel
theorem dX4_countDirectories_31 : decode cX4_countDirectories 31 = .ok (.invokevirtual 46, 3) := by decide +kernel
theorem dX4_countDirectories_34 : decode cX4_countDirectories 34 = .ok (.bipush 32, 2) := by decide +kernel
theorem dX4_countDirectories_36 : decode cX4_countDirectories 36 = .ok (.iload_n 3, 1) := by decide +kernel
theorem dX4_countDirectories_37 : decode cX4_countDirectories 37 = .ok (.imul, 1) := by decide +kernel
theorem dX4_countDirectories_38 : decode cX4_countDirectories 38 = .ok (.iadd, 1) := by decide +kernel
theorem dX4_countDirectories_39 : decode cX4_countDirectories 39 = .ok (.bipush 16, 2) := by decide +kernel
theorem dX4_countDirectories_41 : decode cX4_countDirectories 41 = .ok (.iadd, 1) := by decide +kernel
theorem dX4_countDirectories_42 : decode cX4_countDirectories 42 = .ok (.istore 5, 2) := by decide +kernel
theorem dX4_countDirectories_44 : decode cX4_countDirectories 44 = .ok (.aload_n 0, 1) := by decide +kernel
theorem dX4_countDirectories_45 : decode cX4_countDirectories 45 = .ok (.getfield 9, 3) := by decide +kernel
theorem dX4_countDirectories_48 : decode cX4_countDirectories 48 = .ok (.iload 5, 2) := by decide +kernel
theorem dX4_countDirectories_50 : decode cX4_countDirectories 50 = .ok (.aload_n 0, 1) := by decide +kernel
theorem dX4_countDirectories_51 : decode cX4_countDirectories 51 = .ok (.getfield 9, 3) := by decide +kernel
theorem dX4_countDirectories_54 : decode cX4_countDirectories 54 = .ok (.iload 5, 2) := by decide +kernel
theorem dX4_countDirectories_56 : decode cX4_countDirectories 56 = .ok (.invokevirtual 29, 3) := by decide +kernel
theorem dX4_countDirectories_59 : decode cX4_countDirectories 59 = .ok (.iload_n 2, 1) := by decide +kernel
theorem dX4_countDirectories_60 : decode cX4_countDirectories 60 = .ok (.iadd, 1) := by decide +kernel
theorem dX4_countDirectories_61 : decode cX4_countDirectories 61 = .ok (.invokevirtual 41, 3) := by decide +kernel
theorem dX4_countDirectories_64 : decode cX4_countDirectories 64 = .ok (.iinc 4 1, 3) := by decide +kernel
theorem dX4_countDirectories_67 : decode cX4_countDirectories 67 = .ok (.goto (-55), 3) := by decide +kernel
theorem dX4_countDirectories_70 : decode cX4_countDirectories 70 = .ok (.return_, 1) := by decide +kernel
theorem dX2_groupOfInode_0 : decode cX2_groupOfInode 0 = .ok (.aload_n 0, 1) := by decide +kernel
theorem dX2_groupOfInode_1 : decode cX2_groupOfInode 1 = .ok (.getfield 21, 3) := by decide +kernel
theorem dX2_groupOfInode_4 : decode cX2_groupOfInode 4 = .ok (.ifCond .le 14, 3) := by decide +kernel
theorem dX2_groupOfInode_7 : decode cX2_groupOfInode 7 = .ok (.iload_n 1, 1) := by decide +kernel
theorem dX2_groupOfInode_8 : decode cX2_groupOfInode 8 = .ok (.iconst 1, 1) := by decide +kernel
theorem dX2_groupOfInode_9 : decode cX2_groupOfInode 9 = .ok (.isub, 1) := by decide +kernel
theorem dX2_groupOfInode_10 : decode cX2_groupOfInode 10 = .ok (.aload_n 0, 1) := by decide +kernel
theorem dX2_groupOfInode_11 : decode cX2_groupOfInode 11 = .ok (.getfield 21, 3) := by decide +kernel
theorem dX2_groupOfInode_14 : decode cX2_groupOfInode 14 = .ok (.idiv, 1) := by decide +kernel
theorem dX2_groupOfInode_15 : decode cX2_groupOfInode 15 = .ok (.goto 4, 3) := by decide +kernel
theorem dX2_groupOfInode_18 : decode cX2_groupOfInode 18 = .ok (.iconst 0, 1) := by decide +kernel
theorem dX2_groupOfInode_19 : decode cX2_groupOfInode 19 = .ok (.ireturn, 1) := by decide +kernel
theorem dX4_addDirectoryBlock_0 : decode cX4_addDirectoryBlock 0 = .ok (.aload_n 0, 1) := by decide +kernel
theorem dX4_addDirectoryBlock_1 : decode cX4_addDirectoryBlock 1 = .ok (.iload_n 1, 1) := by decide +kernel
theorem dX4_addDirectoryBlock_2 : decode cX4_addDirectoryBlock 2 = .ok (.invokevirtual 65, 3) := by decide +kernel
theorem dX4_addDirectoryBlock_5 : decode cX4_addDirectoryBlock 5 = .ok (.invokestatic 68, 3) := by decide +kernel
theorem dX4_addDirectoryBlock_8 : decode cX4_addDirectoryBlock 8 = .ok (.istore_n 2, 1) := by decide +kernel
theorem dX4_addDirectoryBlock_9 : decode cX4_addDirectoryBlock 9 = .ok (.aload_n 0, 1) := by decide +kernel
theorem dX4_addDirectoryBlock_10 : decode cX4_addDirectoryBlock 10 = .ok (.iload_n 1, 1) := by decide +kernel
theorem dX4_addDirectoryBlock_11 : decode cX4_addDirectoryBlock 11 = .ok (.iload_n 2, 1) := by decide +kernel
theorem dX4_addDirectoryBlock_12 : decode cX4_addDirectoryBlock 12 = .ok (.invokevirtual 99, 3) := by decide +kernel
theorem dX4_addDirectoryBlock_15 : decode cX4_addDirectoryBlock 15 = .ok (.aload_n 0, 1) := by decide +kernel
theorem dX4_addDirectoryBlock_16 : decode cX4_addDirectoryBlock 16 = .ok (.iload_n 1, 1) := by decide +kernel
theorem dX4_addDirectoryBlock_17 : decode cX4_addDirectoryBlock 17 = .ok (.iload_n 2, 1) := by decide +kernel
theorem dX4_addDirectoryBlock_18 : decode cX4_addDirectoryBlock 18 = .ok (.iconst 1, 1) := by decide +kernel
theorem dX4_addDirectoryBlock_19 : decode cX4_addDirectoryBlock 19 = .ok (.iadd, 1) := by decide +kernel
theorem dX4_addDirectoryBlock_20 : decode cX4_addDirectoryBlock 20 = .ok (.sipush 1024, 3) := by decide +kernel
theorem dX4_addDirectoryBlock_23 : decode cX4_addDirectoryBlock 23 = .ok (.imul, 1) := by decide +kernel
theorem dX4_addDirectoryBlock_24 : decode cX4_addDirectoryBlock 24 = .ok (.invokevirtual 102, 3) := by decide +kernel
theorem dX4_addDirectoryBlock_27 : decode cX4_addDirectoryBlock 27 = .ok (.aload_n 0, 1) := by decide +kernel
theorem dX4_addDirectoryBlock_28 : decode cX4_addDirectoryBlock 28 = .ok (.iload_n 1, 1) := by decide +kernel
theorem dX4_addDirectoryBlock_29 : decode cX4_addDirectoryBlock 29 = .ok (.iload_n 2, 1) := by decide +kernel
theorem dX4_addDirectoryBlock_30 : decode cX4_addDirectoryBlock 30 = .ok (.invokevirtual 105, 3) := by decide +kernel
theorem dX4_addDirectoryBlock_33 : decode cX4_addDirectoryBlock 33 = .ok (.ireturn, 1) := by decide +kernel
theorem dX4_addBlock_0 : decode cX4_addBlock 0 = .ok (.aload_n 0, 1) := by decide +kernel
theorem dX4_addBlock_1 : decode cX4_addBlock 1 = .ok (.getfield 15, 3) := by decide +kernel
theorem dX4_addBlock_4 : decode cX4_addBlock 4 = .ok (.iload_n 1, 1) := by decide +kernel
theorem dX4_addBlock_5 : decode cX4_addBlock 5 = .ok (.invokevirtual 23, 3) := by decide +kernel
theorem dX4_addBlock_8 : decode cX4_addBlock 8 = .ok (.istore_n 3, 1) := by decide +kernel
theorem dX4_addBlock_9 : decode cX4_addBlock 9 = .ok (.iload_n 2, 1) := by decide +kernel
theorem dX4_addBlock_10 : decode cX4_addBlock 10 = .ok (.bipush 12, 2) := by decide +kernel
theorem dX4_addBlock_12 : decode cX4_addBlock 12 = .ok (.if_icmp .ne 12, 3) := by decide +kernel
theorem dX4_addBlock_15 : decode cX4_addBlock 15 = .ok (.aload_n 0, 1) := by decide +kernel
theorem dX4_addBlock_16 : decode cX4_addBlock 16 = .ok (.iload_n 3, 1) := by decide +kernel
theorem dX4_addBlock_17 : decode cX4_addBlock 17 = .ok (.iload_n 3, 1) := by decide +kernel
theorem dX4_addBlock_18 : decode cX4_addBlock 18 = .ok (.bipush 88, 2) := by decide +kernel
theorem dX4_addBlock_20 : decode cX4_addBlock 20 = .ok (.iadd, 1) := by decide +kernel
theorem dX4_addBlock_21 : decode cX4_addBlock 21 = .ok (.invokevirtual 77, 3) := by decide +kernel
theorem dX4_addBlock_24 : decode cX4_addBlock 24 = .ok (.iload_n 2, 1) := by decide +kernel
theorem dX4_addBlock_25 : decode cX4_addBlock 25 = .ok (.sipush 268, 3) := by decide +kernel
theorem dX4_addBlock_28 : decode cX4_addBlock 28 = .ok (.if_icmp .ne 12, 3) := by decide +kernel
theorem dX4_addBlock_31 : decode cX4_addBlock 31 = .ok (.aload_n 0, 1) := by decide +kernel
theorem dX4_addBlock_32 : decode cX4_addBlock 32 = .ok (.iload_n 3, 1) := by decide +kernel
theorem dX4_addBlock_33 : decode cX4_addBlock 33 = .ok (.iload_n 3, 1) := by decide +kernel
theorem dX4_addBlock_34 : decode cX4_addBlock 34 = .ok (.bipush 92, 2) := by decide +kernel
theorem dX4_addBlock_36 : decode cX4_addBlock 36 = .ok (.iadd, 1) := by decide +kernel
theorem dX4_addBlock_37 : decode cX4_addBlock 37 = .ok (.invokevirtual 77, 3) := by decide +kernel
theorem dX4_addBlock_40 : decode cX4_addBlock 40 = .ok (.iload_n 2, 1) := by decide +kernel
theorem dX4_addBlock_41 : decode cX4_addBlock 41 = .ok (.invokestatic 80, 3) := by decide +kernel
theorem dX4_addBlock_44 : decode cX4_addBlock 44 = .ok (.ifCond .eq 14, 3) := by decide +kernel
theorem dX4_addBlock_47 : decode cX4_addBlock 47 = .ok (.aload_n 0, 1) := by decide +kernel
theorem dX4_addBlock_48 : decode cX4_addBlock 48 = .ok (.iload_n 3, 1) := by decide +kernel
theorem dX4_addBlock_49 : decode cX4_addBlock 49 = .ok (.aload_n 0, 1) := by decide +kernel
theorem dX4_addBlock_50 : decode cX4_addBlock 50 = .ok (.iload_n 3, 1) := by decide +kernel
theorem dX4_addBlock_51 : decode cX4_addBlock 51 = .ok (.iload_n 2, 1) := by decide +kernel
theorem dX4_addBlock_52 : decode cX4_addBlock 52 = .ok (.invokevirtual 84, 3) := by decide +kernel
theorem dX4_addBlock_55 : decode cX4_addBlock 55 = .ok (.invokevirtual 77, 3) := by decide +kernel
theorem dX4_addBlock_58 : decode cX4_addBlock 58 = .ok (.aload_n 0, 1) := by decide +kernel
theorem dX4_addBlock_59 : decode cX4_addBlock 59 = .ok (.iload_n 3, 1) := by decide +kernel
theorem dX4_addBlock_60 : decode cX4_addBlock 60 = .ok (.aload_n 0, 1) := by decide +kernel
theorem dX4_addBlock_61 : decode cX4_addBlock 61 = .ok (.iload_n 3, 1) := by decide +kernel
theorem dX4_addBlock_62 : decode cX4_addBlock 62 = .ok (.iload_n 2, 1) := by decide +kernel
theorem dX4_addBlock_63 : decode cX4_addBlock 63 = .ok (.invokevirtual 74, 3) := by decide +kernel
theorem dX4_addBlock_66 : decode cX4_addBlock 66 = .ok (.invokevirtual 77, 3) := by decide +kernel
theorem dX4_addBlock_69 : decode cX4_addBlock 69 = .ok (.return_, 1) := by decide +kernel
theorem dX4_gain_0 : decode cX4_gain 0 = .ok (.aload_n 0, 1) := by decide +kernel
theorem dX4_gain_1 : decode cX4_gain 1 = .ok (.getfield 19, 3) := by decide +kernel
theorem dX4_gain_4 : decode cX4_gain 4 = .ok (.invokevirtual 87, 3) := by decide +kernel
theorem dX4_gain_7 : decode cX4_gain 7 = .ok (.istore_n 3, 1) := by decide +kernel
theorem dX4_gain_8 : decode cX4_gain 8 = .ok (.iload_n 3, 1) := by decide +kernel
theorem dX4_gain_9 : decode cX4_gain 9 = .ok (.iconst (-1), 1) := by decide +kernel
theorem dX4_gain_10 : decode cX4_gain 10 = .ok (.if_icmp .ne 4, 3) := by decide +kernel
theorem dX4_gain_13 : decode cX4_gain 13 = .ok (.return_, 1) := by decide +kernel
theorem dX4_gain_14 : decode cX4_gain 14 = .ok (.aload_n 0, 1) := by decide +kernel
theorem dX4_gain_15 : decode cX4_gain 15 = .ok (.getfield 9, 3) := by decide +kernel
theorem dX4_gain_18 : decode cX4_gain 18 = .ok (.iload_n 3, 1) := by decide +kernel
theorem dX4_gain_19 : decode cX4_gain 19 = .ok (.sipush 1024, 3) := by decide +kernel
theorem dX4_gain_22 : decode cX4_gain 22 = .ok (.imul, 1) := by decide +kernel
theorem dX4_gain_23 : decode cX4_gain 23 = .ok (.iload_n 3, 1) := by decide +kernel
theorem dX4_gain_24 : decode cX4_gain 24 = .ok (.sipush 1024, 3) := by decide +kernel
theorem dX4_gain_27 : decode cX4_gain 27 = .ok (.imul, 1) := by decide +kernel
theorem dX4_gain_28 : decode cX4_gain 28 = .ok (.sipush 1024, 3) := by decide +kernel
theorem dX4_gain_31 : decode cX4_gain 31 = .ok (.iadd, 1) := by decide +kernel
theorem dX4_gain_32 : decode cX4_gain 32 = .ok (.iconst 0, 1) := by decide +kernel
theorem dX4_gain_33 : decode cX4_gain 33 = .ok (.invokevirtual 61, 3) := by decide +kernel
theorem dX4_gain_36 : decode cX4_gain 36 = .ok (.aload_n 0, 1) := by decide +kernel
theorem dX4_gain_37 : decode cX4_gain 37 = .ok (.getfield 9, 3) := by decide +kernel
theorem dX4_gain_40 : decode cX4_gain 40 = .ok (.iload_n 2, 1) := by decide +kernel
theorem dX4_gain_41 : decode cX4_gain 41 = .ok (.iload_n 3, 1) := by decide +kernel
theorem dX4_gain_42 : decode cX4_gain 42 = .ok (.invokevirtual 37, 3) := by decide +kernel
theorem dX4_gain_45 : decode cX4_gain 45 = .ok (.aload_n 0, 1) := by decide +kernel
theorem dX4_gain_46 : decode cX4_gain 46 = .ok (.getfield 9, 3) := by decide +kernel
theorem dX4_gain_49 : decode cX4_gain 49 = .ok (.iload_n 1, 1) := by decide +kernel
theorem dX4_gain_50 : decode cX4_gain 50 = .ok (.bipush 28, 2) := by decide +kernel
theorem dX4_gain_52 : decode cX4_gain 52 = .ok (.iadd, 1) := by decide +kernel
theorem dX4_gain_53 : decode cX4_gain 53 = .ok (.aload_n 0, 1) := by decide +kernel
theorem dX4_gain_54 : decode cX4_gain 54 = .ok (.getfield 9, 3) := by decide +kernel
theorem dX4_gain_57 : decode cX4_gain 57 = .ok (.iload_n 1, 1) := by decide +kernel
theorem dX4_gain_58 : decode cX4_gain 58 = .ok (.bipush 28, 2) := by decide +kernel
theorem dX4_gain_60 : decode cX4_gain 60 = .ok (.iadd, 1) := by decide +kernel
theorem dX4_gain_61 : decode cX4_gain 61 = .ok (.invokevirtual 34, 3) := by decide +kernel
theorem dX4_gain_64 : decode cX4_gain 64 = .ok (.iconst 2, 1) := by decide +kernel
theorem dX4_gain_65 : decode cX4_gain 65 = .ok (.iadd, 1) := by decide +kernel
theorem dX4_gain_66 : decode cX4_gain 66 = .ok (.invokevirtual 37, 3) := by decide +kernel
theorem dX4_gain_69 : decode cX4_gain 69 = .ok (.return_, 1) := by decide +kernel
theorem dX4_beginsRow_0 : decode cX4_beginsRow 0 = .ok (.iload_n 0, 1) := by decide +kernel
theorem dX4_beginsRow_1 : decode cX4_beginsRow 1 = .ok (.sipush 268, 3) := by decide +kernel
theorem dX4_beginsRow_4 : decode cX4_beginsRow 4 = .ok (.if_icmp .lt 19, 3) := by decide +kernel
theorem dX4_beginsRow_7 : decode cX4_beginsRow 7 = .ok (.iload_n 0, 1) := by decide +kernel
theorem dX4_beginsRow_8 : decode cX4_beginsRow 8 = .ok (.sipush 268, 3) := by decide +kernel
theorem dX4_beginsRow_11 : decode cX4_beginsRow 11 = .ok (.isub, 1) := by decide +kernel
theorem dX4_beginsRow_12 : decode cX4_beginsRow 12 = .ok (.sipush 256, 3) := by decide +kernel
theorem dX4_beginsRow_15 : decode cX4_beginsRow 15 = .ok (.irem, 1) := by decide +kernel
theorem dX4_beginsRow_16 : decode cX4_beginsRow 16 = .ok (.ifCond .ne 7, 3) := by decide +kernel
theorem dX4_beginsRow_19 : decode cX4_beginsRow 19 = .ok (.iconst 1, 1) := by decide +kernel
theorem dX4_beginsRow_20 : decode cX4_beginsRow 20 = .ok (.goto 4, 3) := by decide +kernel
theorem dX4_beginsRow_23 : decode cX4_beginsRow 23 = .ok (.iconst 0, 1) := by decide +kernel
theorem dX4_beginsRow_24 : decode cX4_beginsRow 24 = .ok (.ireturn, 1) := by decide +kernel
theorem dX4_rowPointerAt_0 : decode cX4_rowPointerAt 0 = .ok (.aload_n 0, 1) := by decide +kernel
theorem dX4_rowPointerAt_1 : decode cX4_rowPointerAt 1 = .ok (.getfield 9, 3) := by decide +kernel
theorem dX4_rowPointerAt_4 : decode cX4_rowPointerAt 4 = .ok (.iload_n 1, 1) := by decide +kernel
theorem dX4_rowPointerAt_5 : decode cX4_rowPointerAt 5 = .ok (.bipush 92, 2) := by decide +kernel
theorem dX4_rowPointerAt_7 : decode cX4_rowPointerAt 7 = .ok (.iadd, 1) := by decide +kernel
theorem dX4_rowPointerAt_8 : decode cX4_rowPointerAt 8 = .ok (.invokevirtual 34, 3) := by decide +kernel
theorem dX4_rowPointerAt_11 : decode cX4_rowPointerAt 11 = .ok (.sipush 1024, 3) := by decide +kernel
theorem dX4_rowPointerAt_14 : decode cX4_rowPointerAt 14 = .ok (.imul, 1) := by decide +kernel
theorem dX4_rowPointerAt_15 : decode cX4_rowPointerAt 15 = .ok (.iconst 4, 1) := by decide +kernel
theorem dX4_rowPointerAt_16 : decode cX4_rowPointerAt 16 = .ok (.iload_n 2, 1) := by decide +kernel
theorem dX4_rowPointerAt_17 : decode cX4_rowPointerAt 17 = .ok (.sipush 268, 3) := by decide +kernel
theorem dX4_rowPointerAt_20 : decode cX4_rowPointerAt 20 = .ok (.isub, 1) := by decide +kernel
theorem dX4_rowPointerAt_21 : decode cX4_rowPointerAt 21 = .ok (.sipush 256, 3) := by decide +kernel
theorem dX4_rowPointerAt_24 : decode cX4_rowPointerAt 24 = .ok (.idiv, 1) := by decide +kernel
theorem dX4_rowPointerAt_25 : decode cX4_rowPointerAt 25 = .ok (.imul, 1) := by decide +kernel
theorem dX4_rowPointerAt_26 : decode cX4_rowPointerAt 26 = .ok (.iadd, 1) := by decide +kernel
theorem dX4_rowPointerAt_27 : decode cX4_rowPointerAt 27 = .ok (.ireturn, 1) := by decide +kernel
theorem dX4_setSize_0 : decode cX4_setSize 0 = .ok (.aload_n 0, 1) := by decide +kernel
theorem dX4_setSize_1 : decode cX4_setSize 1 = .ok (.getfield 9, 3) := by decide +kernel
theorem dX4_setSize_4 : decode cX4_setSize 4 = .ok (.aload_n 0, 1) := by decide +kernel
theorem dX4_setSize_5 : decode cX4_setSize 5 = .ok (.getfield 15, 3) := by decide +kernel
theorem dX4_setSize_8 : decode cX4_setSize 8 = .ok (.iload_n 1, 1) := by decide +kernel
theorem dX4_setSize_9 : decode cX4_setSize 9 = .ok (.invokevirtual 23, 3) := by decide +kernel
theorem dX4_setSize_12 : decode cX4_setSize 12 = .ok (.iconst 4, 1) := by decide +kernel
theorem dX4_setSize_13 : decode cX4_setSize 13 = .ok (.iadd, 1) := by decide +kernel
theorem dX4_setSize_14 : decode cX4_setSize 14 = .ok (.iload_n 2, 1) := by decide +kernel
theorem dX4_setSize_15 : decode cX4_setSize 15 = .ok (.invokevirtual 37, 3) := by decide +kernel
theorem dX4_setSize_18 : decode cX4_setSize 18 = .ok (.return_, 1) := by decide +kernel
theorem dX5_layDots_0 : decode cX5_layDots 0 = .ok (.iload_n 1, 1) := by decide +kernel
theorem dX5_layDots_1 : decode cX5_layDots 1 = .ok (.sipush 1024, 3) := by decide +kernel
theorem dX5_layDots_4 : decode cX5_layDots 4 = .ok (.imul, 1) := by decide +kernel
theorem dX5_layDots_5 : decode cX5_layDots 5 = .ok (.istore 4, 2) := by decide +kernel
theorem dX5_layDots_7 : decode cX5_layDots 7 = .ok (.aload_n 0, 1) := by decide +kernel
theorem dX5_layDots_8 : decode cX5_layDots 8 = .ok (.getfield 15, 3) := by decide +kernel
theorem dX5_layDots_11 : decode cX5_layDots 11 = .ok (.iload 4, 2) := by decide +kernel
theorem dX5_layDots_13 : decode cX5_layDots 13 = .ok (.iload_n 2, 1) := by decide +kernel
theorem dX5_layDots_14 : decode cX5_layDots 14 = .ok (.invokevirtual 93, 3) := by decide +kernel
theorem dX5_layDots_17 : decode cX5_layDots 17 = .ok (.aload_n 0, 1) := by decide +kernel
theorem dX5_layDots_18 : decode cX5_layDots 18 = .ok (.getfield 15, 3) := by decide +kernel
theorem dX5_layDots_21 : decode cX5_layDots 21 = .ok (.iload 4, 2) := by decide +kernel
theorem dX5_layDots_23 : decode cX5_layDots 23 = .ok (.iconst 4, 1) := by decide +kernel
theorem dX5_layDots_24 : decode cX5_layDots 24 = .ok (.iadd, 1) := by decide +kernel
theorem dX5_layDots_25 : decode cX5_layDots 25 = .ok (.bipush 12, 2) := by decide +kernel
theorem dX5_layDots_27 : decode cX5_layDots 27 = .ok (.invokevirtual 89, 3) := by decide +kernel
theorem dX5_layDots_30 : decode cX5_layDots 30 = .ok (.aload_n 0, 1) := by decide +kernel
theorem dX5_layDots_31 : decode cX5_layDots 31 = .ok (.getfield 15, 3) := by decide +kernel
theorem dX5_layDots_34 : decode cX5_layDots 34 = .ok (.iload 4, 2) := by decide +kernel
theorem dX5_layDots_36 : decode cX5_layDots 36 = .ok (.bipush 6, 2) := by decide +kernel
theorem dX5_layDots_38 : decode cX5_layDots 38 = .ok (.iadd, 1) := by decide +kernel
theorem dX5_layDots_39 : decode cX5_layDots 39 = .ok (.iconst 1, 1) := by decide +kernel
theorem dX5_layDots_40 : decode cX5_layDots 40 = .ok (.invokevirtual 96, 3) := by decide +kernel
theorem dX5_layDots_43 : decode cX5_layDots 43 = .ok (.aload_n 0, 1) := by decide +kernel
theorem dX5_layDots_44 : decode cX5_layDots 44 = .ok (.getfield 15, 3) := by decide +kernel
theorem dX5_layDots_47 : decode cX5_layDots 47 = .ok (.iload 4, 2) := by decide +kernel
theorem dX5_layDots_49 : decode cX5_layDots 49 = .ok (.bipush 7, 2) := by decide +kernel
theorem dX5_layDots_51 : decode cX5_layDots 51 = .ok (.iadd, 1) := by decide +kernel
theorem dX5_layDots_52 : decode cX5_layDots 52 = .ok (.iconst 2, 1) := by decide +kernel
theorem dX5_layDots_53 : decode cX5_layDots 53 = .ok (.invokevirtual 96, 3) := by decide +kernel
theorem dX5_layDots_56 : decode cX5_layDots 56 = .ok (.aload_n 0, 1) := by decide +kernel
theorem dX5_layDots_57 : decode cX5_layDots 57 = .ok (.getfield 15, 3) := by decide +kernel
theorem dX5_layDots_60 : decode cX5_layDots 60 = .ok (.iload 4, 2) := by decide +kernel
theorem dX5_layDots_62 : decode cX5_layDots 62 = .ok (.bipush 8, 2) := by decide +kernel
theorem dX5_layDots_64 : decode cX5_layDots 64 = .ok (.iadd, 1) := by decide +kernel
theorem dX5_layDots_65 : decode cX5_layDots 65 = .ok (.bipush 46, 2) := by decide +kernel
theorem dX5_layDots_67 : decode cX5_layDots 67 = .ok (.invokevirtual 96, 3) := by decide +kernel
theorem dX5_layDots_70 : decode cX5_layDots 70 = .ok (.iload 4, 2) := by decide +kernel
theorem dX5_layDots_72 : decode cX5_layDots 72 = .ok (.bipush 12, 2) := by decide +kernel
theorem dX5_layDots_74 : decode cX5_layDots 74 = .ok (.iadd, 1) := by decide +kernel
theorem dX5_layDots_75 : decode cX5_layDots 75 = .ok (.istore 5, 2) := by decide +kernel
theorem dX5_layDots_77 : decode cX5_layDots 77 = .ok (.aload_n 0, 1) := by decide +kernel
theorem dX5_layDots_78 : decode cX5_layDots 78 = .ok (.getfield 15, 3) := by decide +kernel
theorem dX5_layDots_81 : decode cX5_layDots 81 = .ok (.iload 5, 2) := by decide +kernel
theorem dX5_layDots_83 : decode cX5_layDots 83 = .ok (.iload_n 3, 1) := by decide +kernel
theorem dX5_layDots_84 : decode cX5_layDots 84 = .ok (.invokevirtual 93, 3) := by decide +kernel
theorem dX5_layDots_87 : decode cX5_layDots 87 = .ok (.aload_n 0, 1) := by decide +kernel
theorem dX5_layDots_88 : decode cX5_layDots 88 = .ok (.getfield 15, 3) := by decide +kernel
theorem dX5_layDots_91 : decode cX5_layDots 91 = .ok (.iload 5, 2) := by decide +kernel
theorem dX5_layDots_93 : decode cX5_layDots 93 = .ok (.iconst 4, 1) := by decide +kernel
theorem dX5_layDots_94 : decode cX5_layDots 94 = .ok (.iadd, 1) := by decide +kernel
theorem dX5_layDots_95 : decode cX5_layDots 95 = .ok (.sipush 1012, 3) := by decide +kernel
theorem dX5_layDots_98 : decode cX5_layDots 98 = .ok (.invokevirtual 89, 3) := by decide +kernel
theorem dX5_layDots_101 : decode cX5_layDots 101 = .ok (.aload_n 0, 1) := by decide +kernel
theorem dX5_layDots_102 : decode cX5_layDots 102 = .ok (.getfield 15, 3) := by decide +kernel
theorem dX5_layDots_105 : decode cX5_layDots 105 = .ok (.iload 5, 2) := by decide +kernel
theorem dX5_layDots_107 : decode cX5_layDots 107 = .ok (.bipush 6, 2) := by decide +kernel
theorem dX5_layDots_109 : decode cX5_layDots 109 = .ok (.iadd, 1) := by decide +kernel
theorem dX5_layDots_110 : decode cX5_layDots 110 = .ok (.iconst 2, 1) := by decide +kernel
theorem dX5_layDots_111 : decode cX5_layDots 111 = .ok (.invokevirtual 96, 3) := by decide +kernel
theorem dX5_layDots_114 : decode cX5_layDots 114 = .ok (.aload_n 0, 1) := by decide +kernel
theorem dX5_layDots_115 : decode cX5_layDots 115 = .ok (.getfield 15, 3) := by decide +kernel
theorem dX5_layDots_118 : decode cX5_layDots 118 = .ok (.iload 5, 2) := by decide +kernel
theorem dX5_layDots_120 : decode cX5_layDots 120 = .ok (.bipush 7, 2) := by decide +kernel
theorem dX5_layDots_122 : decode cX5_layDots 122 = .ok (.iadd, 1) := by decide +kernel
theorem dX5_layDots_123 : decode cX5_layDots 123 = .ok (.iconst 2, 1) := by decide +kernel
theorem dX5_layDots_124 : decode cX5_layDots 124 = .ok (.invokevirtual 96, 3) := by decide +kernel
theorem dX5_layDots_127 : decode cX5_layDots 127 = .ok (.aload_n 0, 1) := by decide +kernel
theorem dX5_layDots_128 : decode cX5_layDots 128 = .ok (.getfield 15, 3) := by decide +kernel
theorem dX5_layDots_131 : decode cX5_layDots 131 = .ok (.iload 5, 2) := by decide +kernel
theorem dX5_layDots_133 : decode cX5_layDots 133 = .ok (.bipush 8, 2) := by decide +kernel
theorem dX5_layDots_135 : decode cX5_layDots 135 = .ok (.iadd, 1) := by decide +kernel
theorem dX5_layDots_136 : decode cX5_layDots 136 = .ok (.sipush 11822, 3) := by decide +kernel
theorem dX5_layDots_139 : decode cX5_layDots 139 = .ok (.invokevirtual 89, 3) := by decide +kernel
theorem dX5_layDots_142 : decode cX5_layDots 142 = .ok (.return_, 1) := by decide +kernel
theorem dX10_items_0 : decode cX10_items 0 = .ok (.aload_n 1, 1) := by decide +kernel
theorem dX10_items_1 : decode cX10_items 1 = .ok (.iconst 0, 1) := by decide +kernel
theorem dX10_items_2 : decode cX10_items 2 = .ok (.aload_n 0, 1) := by decide +kernel
theorem dX10_items_3 : decode cX10_items 3 = .ok (.invokevirtual 15, 3) := by decide +kernel
theorem dX10_items_6 : decode cX10_items 6 = .ok (.i2l, 1) := by decide +kernel
theorem dX10_items_7 : decode cX10_items 7 = .ok (.lastore, 1) := by decide +kernel
theorem dX10_items_8 : decode cX10_items 8 = .ok (.goto 6, 3) := by decide +kernel
theorem dX10_items_11 : decode cX10_items 11 = .ok (.astore_n 2, 1) := by decide +kernel
theorem dX10_items_12 : decode cX10_items 12 = .ok (.iconst 1, 1) := by decide +kernel
theorem dX10_items_13 : decode cX10_items 13 = .ok (.ireturn, 1) := by decide +kernel
theorem dX10_items_14 : decode cX10_items 14 = .ok (.iconst 0, 1) := by decide +kernel
theorem dX10_items_15 : decode cX10_items 15 = .ok (.ireturn, 1) := by decide +kernel
theorem dX0_items_0 : decode cX0_items 0 = .ok (.aload_n 0, 1) := by decide +kernel
theorem dX0_items_1 : decode cX0_items 1 = .ok (.invokevirtual 165, 3) := by decide +kernel
theorem dX0_items_4 : decode cX0_items 4 = .ok (.aload_n 0, 1) := by decide +kernel
theorem dX0_items_5 : decode cX0_items 5 = .ok (.getfield 60, 3) := by decide +kernel
theorem dX0_items_8 : decode cX0_items 8 = .ok (.aload_n 0, 1) := by decide +kernel
theorem dX0_items_9 : decode cX0_items 9 = .ok (.getfield 89, 3) := by decide +kernel
theorem dX0_items_12 : decode cX0_items 12 = .ok (.invokevirtual 168, 3) := by decide +kernel
theorem dX0_items_15 : decode cX0_items 15 = .ok (.aload_n 0, 1) := by decide +kernel
theorem dX0_items_16 : decode cX0_items 16 = .ok (.getfield 60, 3) := by decide +kernel
theorem dX0_items_19 : decode cX0_items 19 = .ok (.invokevirtual 171, 3) := by decide +kernel
theorem dX0_items_22 : decode cX0_items 22 = .ok (.ireturn, 1) := by decide +kernel
theorem dX0_needVolume_0 : decode cX0_needVolume 0 = .ok (.aload_n 0, 1) := by decide +kernel
theorem dX0_needVolume_1 : decode cX0_needVolume 1 = .ok (.getfield 142, 3) := by decide +kernel
theorem dX0_needVolume_4 : decode cX0_needVolume 4 = .ok (.ifCond .ne 14, 3) := by decide +kernel
theorem dX0_needVolume_7 : decode cX0_needVolume 7 = .ok (.new 283, 3) := by decide +kernel
theorem dX0_needVolume_10 : decode cX0_needVolume 10 = .ok (.dup, 1) := by decide +kernel
theorem dX0_needVolume_11 : decode cX0_needVolume 11 = .ok (.ldc_w 285, 3) := by decide +kernel
theorem dX0_needVolume_14 : decode cX0_needVolume 14 = .ok (.invokespecial 287, 3) := by decide +kernel
theorem dX0_needVolume_17 : decode cX0_needVolume 17 = .ok (.athrow, 1) := by decide +kernel
theorem dX0_needVolume_18 : decode cX0_needVolume 18 = .ok (.return_, 1) := by decide +kernel
theorem dX5_itemCount_0 : decode cX5_itemCount 0 = .ok (.iconst 0, 1) := by decide +kernel
theorem dX5_itemCount_1 : decode cX5_itemCount 1 = .ok (.istore_n 1, 1) := by decide +kernel
theorem dX5_itemCount_2 : decode cX5_itemCount 2 = .ok (.iconst 2, 1) := by decide +kernel
theorem dX5_itemCount_3 : decode cX5_itemCount 3 = .ok (.istore_n 2, 1) := by decide +kernel
theorem dX5_itemCount_4 : decode cX5_itemCount 4 = .ok (.iload_n 2, 1) := by decide +kernel
theorem dX5_itemCount_5 : decode cX5_itemCount 5 = .ok (.aload_n 0, 1) := by decide +kernel
theorem dX5_itemCount_6 : decode cX5_itemCount 6 = .ok (.getfield 23, 3) := by decide +kernel
theorem dX5_itemCount_9 : decode cX5_itemCount 9 = .ok (.if_icmp .ge 20, 3) := by decide +kernel
theorem dX5_itemCount_12 : decode cX5_itemCount 12 = .ok (.aload_n 0, 1) := by decide +kernel
theorem dX5_itemCount_13 : decode cX5_itemCount 13 = .ok (.iload_n 2, 1) := by decide +kernel
theorem dX5_itemCount_14 : decode cX5_itemCount 14 = .ok (.invokevirtual 65, 3) := by decide +kernel
theorem dX5_itemCount_17 : decode cX5_itemCount 17 = .ok (.ifCond .eq 6, 3) := by decide +kernel
theorem dX5_itemCount_20 : decode cX5_itemCount 20 = .ok (.iinc 1 1, 3) := by decide +kernel
theorem dX5_itemCount_23 : decode cX5_itemCount 23 = .ok (.iinc 2 1, 3) := by decide +kernel
theorem dX5_itemCount_26 : decode cX5_itemCount 26 = .ok (.goto (-22), 3) := by decide +kernel
theorem dX5_itemCount_29 : decode cX5_itemCount 29 = .ok (.iload_n 1, 1) := by decide +kernel
theorem dX5_itemCount_30 : decode cX5_itemCount 30 = .ok (.ireturn, 1) := by decide +kernel
theorem dX10_letter_0 : decode cX10_letter 0 = .ok (.aload_n 3, 1) := by decide +kernel
theorem dX10_letter_1 : decode cX10_letter 1 = .ok (.iconst 0, 1) := by decide +kernel
theorem dX10_letter_2 : decode cX10_letter 2 = .ok (.aload_n 0, 1) := by decide +kernel
theorem dX10_letter_3 : decode cX10_letter 3 = .ok (.iload_n 1, 1) := by decide +kernel
theorem dX10_letter_4 : decode cX10_letter 4 = .ok (.iload_n 2, 1) := by decide +kernel
theorem dX10_letter_5 : decode cX10_letter 5 = .ok (.invokevirtual 21, 3) := by decide +kernel
theorem dX10_letter_8 : decode cX10_letter 8 = .ok (.i2l, 1) := by decide +kernel
theorem dX10_letter_9 : decode cX10_letter 9 = .ok (.lastore, 1) := by decide +kernel
theorem dX10_letter_10 : decode cX10_letter 10 = .ok (.goto 11, 3) := by decide +kernel
theorem dX10_letter_13 : decode cX10_letter 13 = .ok (.astore 4, 2) := by decide +kernel
theorem dX10_letter_15 : decode cX10_letter 15 = .ok (.iconst 1, 1) := by decide +kernel
theorem dX10_letter_16 : decode cX10_letter 16 = .ok (.ireturn, 1) := by decide +kernel
theorem dX10_letter_17 : decode cX10_letter 17 = .ok (.astore 4, 2) := by decide +kernel
theorem dX10_letter_19 : decode cX10_letter 19 = .ok (.iconst 2, 1) := by decide +kernel
theorem dX10_letter_20 : decode cX10_letter 20 = .ok (.ireturn, 1) := by decide +kernel
theorem dX10_letter_21 : decode cX10_letter 21 = .ok (.iconst 0, 1) := by decide +kernel
theorem dX10_letter_22 : decode cX10_letter 22 = .ok (.ireturn, 1) := by decide +kernel
theorem dX0_letter_0 : decode cX0_letter 0 = .ok (.aload_n 0, 1) := by decide +kernel
theorem dX0_letter_1 : decode cX0_letter 1 = .ok (.getfield 60, 3) := by decide +kernel
theorem dX0_letter_4 : decode cX0_letter 4 = .ok (.aload_n 0, 1) := by decide +kernel
theorem dX0_letter_5 : decode cX0_letter 5 = .ok (.iload_n 1, 1) := by decide +kernel
theorem dX0_letter_6 : decode cX0_letter 6 = .ok (.invokevirtual 174, 3) := by decide +kernel
theorem dX0_letter_9 : decode cX0_letter 9 = .ok (.iload_n 2, 1) := by decide +kernel
theorem dX0_letter_10 : decode cX0_letter 10 = .ok (.invokevirtual 177, 3) := by decide +kernel
theorem dX0_letter_13 : decode cX0_letter 13 = .ok (.ireturn, 1) := by decide +kernel
theorem dX0_itemHere_0 : decode cX0_itemHere 0 = .ok (.aload_n 0, 1) := by decide +kernel
theorem dX0_itemHere_1 : decode cX0_itemHere 1 = .ok (.invokevirtual 165, 3) := by decide +kernel
theorem dX0_itemHere_4 : decode cX0_itemHere 4 = .ok (.aload_n 0, 1) := by decide +kernel
theorem dX0_itemHere_5 : decode cX0_itemHere 5 = .ok (.getfield 60, 3) := by decide +kernel
theorem dX0_itemHere_8 : decode cX0_itemHere 8 = .ok (.aload_n 0, 1) := by decide +kernel
theorem dX0_itemHere_9 : decode cX0_itemHere 9 = .ok (.getfield 89, 3) := by decide +kernel
theorem dX0_itemHere_12 : decode cX0_itemHere 12 = .ok (.invokevirtual 168, 3) := by decide +kernel
theorem dX0_itemHere_15 : decode cX0_itemHere 15 = .ok (.aload_n 0, 1) := by decide +kernel
theorem dX0_itemHere_16 : decode cX0_itemHere 16 = .ok (.getfield 60, 3) := by decide +kernel
theorem dX0_itemHere_19 : decode cX0_itemHere 19 = .ok (.iload_n 1, 1) := by decide +kernel
theorem dX0_itemHere_20 : decode cX0_itemHere 20 = .ok (.invokevirtual 288, 3) := by decide +kernel
theorem dX0_itemHere_23 : decode cX0_itemHere 23 = .ok (.istore_n 2, 1) := by decide +kernel
theorem dX0_itemHere_24 : decode cX0_itemHere 24 = .ok (.iload_n 2, 1) := by decide +kernel
theorem dX0_itemHere_25 : decode cX0_itemHere 25 = .ok (.iconst (-1), 1) := by decide +kernel
theorem dX0_itemHere_26 : decode cX0_itemHere 26 = .ok (.if_icmp .ne 14, 3) := by decide +kernel
theorem dX0_itemHere_29 : decode cX0_itemHere 29 = .ok (.new 291, 3) := by decide +kernel
theorem dX0_itemHere_32 : decode cX0_itemHere 32 = .ok (.dup, 1) := by decide +kernel
theorem dX0_itemHere_33 : decode cX0_itemHere 33 = .ok (.ldc_w 293, 3) := by decide +kernel
theorem dX0_itemHere_36 : decode cX0_itemHere 36 = .ok (.invokespecial 295, 3) := by decide +kernel
theorem dX0_itemHere_39 : decode cX0_itemHere 39 = .ok (.athrow, 1) := by decide +kernel
theorem dX0_itemHere_40 : decode cX0_itemHere 40 = .ok (.iload_n 2, 1) := by decide +kernel
theorem dX0_itemHere_41 : decode cX0_itemHere 41 = .ok (.ireturn, 1) := by decide +kernel
theorem dX5_placeOf_0 : decode cX5_placeOf 0 = .ok (.iconst 0, 1) := by decide +kernel
theorem dX5_placeOf_1 : decode cX5_placeOf 1 = .ok (.istore_n 2, 1) := by decide +kernel
theorem dX5_placeOf_2 : decode cX5_placeOf 2 = .ok (.iconst 2, 1) := by decide +kernel
theorem dX5_placeOf_3 : decode cX5_placeOf 3 = .ok (.istore_n 3, 1) := by decide +kernel
theorem dX5_placeOf_4 : decode cX5_placeOf 4 = .ok (.iload_n 3, 1) := by decide +kernel
theorem dX5_placeOf_5 : decode cX5_placeOf 5 = .ok (.aload_n 0, 1) := by decide +kernel
theorem dX5_placeOf_6 : decode cX5_placeOf 6 = .ok (.getfield 23, 3) := by decide +kernel
theorem dX5_placeOf_9 : decode cX5_placeOf 9 = .ok (.if_icmp .ge 27, 3) := by decide +kernel
theorem dX5_placeOf_12 : decode cX5_placeOf 12 = .ok (.aload_n 0, 1) := by decide +kernel
theorem dX5_placeOf_13 : decode cX5_placeOf 13 = .ok (.iload_n 3, 1) := by decide +kernel
theorem dX5_placeOf_14 : decode cX5_placeOf 14 = .ok (.invokevirtual 65, 3) := by decide +kernel
theorem dX5_placeOf_17 : decode cX5_placeOf 17 = .ok (.ifCond .eq 13, 3) := by decide +kernel
theorem dX5_placeOf_20 : decode cX5_placeOf 20 = .ok (.iload_n 2, 1) := by decide +kernel
theorem dX5_placeOf_21 : decode cX5_placeOf 21 = .ok (.iload_n 1, 1) := by decide +kernel
theorem dX5_placeOf_22 : decode cX5_placeOf 22 = .ok (.if_icmp .ne 5, 3) := by decide +kernel
theorem dX5_placeOf_25 : decode cX5_placeOf 25 = .ok (.iload_n 3, 1) := by decide +kernel
theorem dX5_placeOf_26 : decode cX5_placeOf 26 = .ok (.ireturn, 1) := by decide +kernel
theorem dX5_placeOf_27 : decode cX5_placeOf 27 = .ok (.iinc 2 1, 3) := by decide +kernel
theorem dX5_placeOf_30 : decode cX5_placeOf 30 = .ok (.iinc 3 1, 3) := by decide +kernel
theorem dX5_placeOf_33 : decode cX5_placeOf 33 = .ok (.goto (-29), 3) := by decide +kernel
theorem dX5_placeOf_36 : decode cX5_placeOf 36 = .ok (.iconst (-1), 1) := by decide +kernel
theorem dX5_placeOf_37 : decode cX5_placeOf 37 = .ok (.ireturn, 1) := by decide +kernel
theorem dX10_about_0 : decode cX10_about 0 = .ok (.aload_n 3, 1) := by decide +kernel
theorem dX10_about_1 : decode cX10_about 1 = .ok (.iconst 0, 1) := by decide +kernel
theorem dX10_about_2 : decode cX10_about 2 = .ok (.aload_n 0, 1) := by decide +kernel
theorem dX10_about_3 : decode cX10_about 3 = .ok (.iload_n 1, 1) := by decide +kernel
theorem dX10_about_4 : decode cX10_about 4 = .ok (.iload_n 2, 1) := by decide +kernel
theorem dX10_about_5 : decode cX10_about 5 = .ok (.invokevirtual 27, 3) := by decide +kernel
theorem dX10_about_8 : decode cX10_about 8 = .ok (.lastore, 1) := by decide +kernel
theorem dX10_about_9 : decode cX10_about 9 = .ok (.goto 15, 3) := by decide +kernel
theorem dX10_about_12 : decode cX10_about 12 = .ok (.astore 4, 2) := by decide +kernel
theorem dX10_about_14 : decode cX10_about 14 = .ok (.iconst 1, 1) := by decide +kernel
theorem dX10_about_15 : decode cX10_about 15 = .ok (.ireturn, 1) := by decide +kernel
theorem dX10_about_16 : decode cX10_about 16 = .ok (.astore 4, 2) := by decide +kernel
theorem dX10_about_18 : decode cX10_about 18 = .ok (.iconst 2, 1) := by decide +kernel
theorem dX10_about_19 : decode cX10_about 19 = .ok (.ireturn, 1) := by decide +kernel
theorem dX10_about_20 : decode cX10_about 20 = .ok (.astore 4, 2) := by decide +kernel
theorem dX10_about_22 : decode cX10_about 22 = .ok (.iconst 3, 1) := by decide +kernel
theorem dX10_about_23 : decode cX10_about 23 = .ok (.ireturn, 1) := by decide +kernel
theorem dX10_about_24 : decode cX10_about 24 = .ok (.iconst 0, 1) := by decide +kernel
theorem dX10_about_25 : decode cX10_about 25 = .ok (.ireturn, 1) := by decide +kernel
theorem dX0_about_0 : decode cX0_about 0 = .ok (.aload_n 0, 1) := by decide +kernel
theorem dX0_about_1 : decode cX0_about 1 = .ok (.getfield 60, 3) := by decide +kernel
theorem dX0_about_4 : decode cX0_about 4 = .ok (.aload_n 0, 1) := by decide +kernel
theorem dX0_about_5 : decode cX0_about 5 = .ok (.iload_n 1, 1) := by decide +kernel
theorem dX0_about_6 : decode cX0_about 6 = .ok (.invokevirtual 174, 3) := by decide +kernel
theorem dX0_about_9 : decode cX0_about 9 = .ok (.invokevirtual 180, 3) := by decide +kernel
theorem dX0_about_12 : decode cX0_about 12 = .ok (.istore_n 3, 1) := by decide +kernel
theorem dX0_about_13 : decode cX0_about 13 = .ok (.iload_n 2, 1) := by decide +kernel
theorem dX0_about_14 : decode cX0_about 14 = .ok (.tableswitch 94 0 6 #[42, 45, 62, 72, 82, 82, 82], 42) := by decide +kernel
theorem dX0_about_56 : decode cX0_about 56 = .ok (.iload_n 3, 1) := by decide +kernel
theorem dX0_about_57 : decode cX0_about 57 = .ok (.i2l, 1) := by decide +kernel
theorem dX0_about_58 : decode cX0_about 58 = .ok (.lreturn, 1) := by decide +kernel
theorem dX0_about_59 : decode cX0_about 59 = .ok (.aload_n 0, 1) := by decide +kernel
theorem dX0_about_60 : decode cX0_about 60 = .ok (.getfield 51, 3) := by decide +kernel
theorem dX0_about_63 : decode cX0_about 63 = .ok (.iload_n 3, 1) := by decide +kernel
theorem dX0_about_64 : decode cX0_about 64 = .ok (.invokevirtual 183, 3) := by decide +kernel
theorem dX0_about_67 : decode cX0_about 67 = .ok (.ifCond .eq 7, 3) := by decide +kernel
theorem dX0_about_70 : decode cX0_about 70 = .ok (.lconst 1, 1) := by decide +kernel
theorem dX0_about_71 : decode cX0_about 71 = .ok (.goto 4, 3) := by decide +kernel
theorem dX0_about_74 : decode cX0_about 74 = .ok (.lconst 0, 1) := by decide +kernel
theorem dX0_about_75 : decode cX0_about 75 = .ok (.lreturn, 1) := by decide +kernel
theorem dX0_about_76 : decode cX0_about 76 = .ok (.aload_n 0, 1) := by decide +kernel
theorem dX0_about_77 : decode cX0_about 77 = .ok (.getfield 51, 3) := by decide +kernel
theorem dX0_about_80 : decode cX0_about 80 = .ok (.iload_n 3, 1) := by decide +kernel
theorem dX0_about_81 : decode cX0_about 81 = .ok (.invokevirtual 186, 3) := by decide +kernel
theorem dX0_about_84 : decode cX0_about 84 = .ok (.i2l, 1) := by decide +kernel
theorem dX0_about_85 : decode cX0_about 85 = .ok (.lreturn, 1) := by decide +kernel
theorem dX0_about_86 : decode cX0_about 86 = .ok (.aload_n 0, 1) := by decide +kernel
theorem dX0_about_87 : decode cX0_about 87 = .ok (.getfield 51, 3) := by decide +kernel
theorem dX0_about_90 : decode cX0_about 90 = .ok (.iload_n 3, 1) := by decide +kernel
theorem dX0_about_91 : decode cX0_about 91 = .ok (.invokevirtual 189, 3) := by decide +kernel
theorem dX0_about_94 : decode cX0_about 94 = .ok (.i2l, 1) := by decide +kernel
theorem dX0_about_95 : decode cX0_about 95 = .ok (.lreturn, 1) := by decide +kernel
theorem dX0_about_96 : decode cX0_about 96 = .ok (.aload_n 0, 1) := by decide +kernel
theorem dX0_about_97 : decode cX0_about 97 = .ok (.getfield 51, 3) := by decide +kernel
theorem dX0_about_100 : decode cX0_about 100 = .ok (.iload_n 3, 1) := by decide +kernel
theorem dX0_about_101 : decode cX0_about 101 = .ok (.iload_n 2, 1) := by decide +kernel
theorem dX0_about_102 : decode cX0_about 102 = .ok (.iconst 4, 1) := by decide +kernel
theorem dX0_about_103 : decode cX0_about 103 = .ok (.isub, 1) := by decide +kernel
theorem dX0_about_104 : decode cX0_about 104 = .ok (.invokevirtual 192, 3) := by decide +kernel
theorem dX0_about_107 : decode cX0_about 107 = .ok (.lreturn, 1) := by decide +kernel
theorem dX0_about_108 : decode cX0_about 108 = .ok (.new 105, 3) := by decide +kernel
theorem dX0_about_111 : decode cX0_about 111 = .ok (.dup, 1) := by decide +kernel
theorem dX0_about_112 : decode cX0_about 112 = .ok (.ldc 196, 2) := by decide +kernel
theorem dX0_about_114 : decode cX0_about 114 = .ok (.invokespecial 109, 3) := by decide +kernel
theorem dX0_about_117 : decode cX0_about 117 = .ok (.athrow, 1) := by decide +kernel
theorem dX4_time_0 : decode cX4_time 0 = .ok (.aload_n 0, 1) := by decide +kernel
theorem dX4_time_1 : decode cX4_time 1 = .ok (.getfield 9, 3) := by decide +kernel
theorem dX4_time_4 : decode cX4_time 4 = .ok (.aload_n 0, 1) := by decide +kernel
theorem dX4_time_5 : decode cX4_time 5 = .ok (.getfield 15, 3) := by decide +kernel
theorem dX4_time_8 : decode cX4_time 8 = .ok (.iload_n 1, 1) := by decide +kernel
theorem dX4_time_9 : decode cX4_time 9 = .ok (.invokevirtual 23, 3) := by decide +kernel
theorem dX4_time_12 : decode cX4_time 12 = .ok (.bipush 8, 2) := by decide +kernel
theorem dX4_time_14 : decode cX4_time 14 = .ok (.iadd, 1) := by decide +kernel
theorem dX4_time_15 : decode cX4_time 15 = .ok (.iconst 4, 1) := by decide +kernel
theorem dX4_time_16 : decode cX4_time 16 = .ok (.iload_n 2, 1) := by decide +kernel
theorem dX4_time_17 : decode cX4_time 17 = .ok (.imul, 1) := by decide +kernel
theorem dX4_time_18 : decode cX4_time 18 = .ok (.iadd, 1) := by decide +kernel
theorem dX4_time_19 : decode cX4_time 19 = .ok (.invokevirtual 34, 3) := by decide +kernel
theorem dX4_time_22 : decode cX4_time 22 = .ok (.i2l, 1) := by decide +kernel
theorem dX4_time_23 : decode cX4_time 23 = .ok (.ldc2_w 44, 3) := by decide +kernel
theorem dX4_time_26 : decode cX4_time 26 = .ok (.land, 1) := by decide +kernel
theorem dX4_time_27 : decode cX4_time 27 = .ok (.lreturn, 1) := by decide +kernel
theorem dX10_content_0 : decode cX10_content 0 = .ok (.aload_n 3, 1) := by decide +kernel
theorem dX10_content_1 : decode cX10_content 1 = .ok (.iconst 0, 1) := by decide +kernel
theorem dX10_content_2 : decode cX10_content 2 = .ok (.aload_n 0, 1) := by decide +kernel
theorem dX10_content_3 : decode cX10_content 3 = .ok (.iload_n 1, 1) := by decide +kernel
theorem dX10_content_4 : decode cX10_content 4 = .ok (.iload_n 2, 1) := by decide +kernel
theorem dX10_content_5 : decode cX10_content 5 = .ok (.invokevirtual 31, 3) := by decide +kernel
theorem dX10_content_8 : decode cX10_content 8 = .ok (.i2l, 1) := by decide +kernel
theorem dX10_content_9 : decode cX10_content 9 = .ok (.lastore, 1) := by decide +kernel
theorem dX10_content_10 : decode cX10_content 10 = .ok (.goto 11, 3) := by decide +kernel
theorem dX10_content_13 : decode cX10_content 13 = .ok (.astore 4, 2) := by decide +kernel
theorem dX10_content_15 : decode cX10_content 15 = .ok (.iconst 1, 1) := by decide +kernel
theorem dX10_content_16 : decode cX10_content 16 = .ok (.ireturn, 1) := by decide +kernel
theorem dX10_content_17 : decode cX10_content 17 = .ok (.astore 4, 2) := by decide +kernel
theorem dX10_content_19 : decode cX10_content 19 = .ok (.iconst 2, 1) := by decide +kernel
theorem dX10_content_20 : decode cX10_content 20 = .ok (.ireturn, 1) := by decide +kernel
theorem dX10_content_21 : decode cX10_content 21 = .ok (.iconst 0, 1) := by decide +kernel
theorem dX10_content_22 : decode cX10_content 22 = .ok (.ireturn, 1) := by decide +kernel
theorem dX0_content_0 : decode cX0_content 0 = .ok (.aload_n 0, 1) := by decide +kernel
theorem dX0_content_1 : decode cX0_content 1 = .ok (.getfield 60, 3) := by decide +kernel
theorem dX0_content_4 : decode cX0_content 4 = .ok (.aload_n 0, 1) := by decide +kernel
theorem dX0_content_5 : decode cX0_content 5 = .ok (.iload_n 1, 1) := by decide +kernel
theorem dX0_content_6 : decode cX0_content 6 = .ok (.invokevirtual 174, 3) := by decide +kernel
theorem dX0_content_9 : decode cX0_content 9 = .ok (.invokevirtual 180, 3) := by decide +kernel
theorem dX0_content_12 : decode cX0_content 12 = .ok (.istore_n 3, 1) := by decide +kernel
theorem dX0_content_13 : decode cX0_content 13 = .ok (.aload_n 0, 1) := by decide +kernel
theorem dX0_content_14 : decode cX0_content 14 = .ok (.getfield 51, 3) := by decide +kernel
theorem dX0_content_17 : decode cX0_content 17 = .ok (.iload_n 3, 1) := by decide +kernel
theorem dX0_content_18 : decode cX0_content 18 = .ok (.invokevirtual 183, 3) := by decide +kernel
theorem dX0_content_21 : decode cX0_content 21 = .ok (.ifCond .ne 19, 3) := by decide +kernel
theorem dX0_content_24 : decode cX0_content 24 = .ok (.iload_n 2, 1) := by decide +kernel
theorem dX0_content_25 : decode cX0_content 25 = .ok (.ifCond .lt 15, 3) := by decide +kernel
theorem dX0_content_28 : decode cX0_content 28 = .ok (.iload_n 2, 1) := by decide +kernel
theorem dX0_content_29 : decode cX0_content 29 = .ok (.aload_n 0, 1) := by decide +kernel
theorem dX0_content_30 : decode cX0_content 30 = .ok (.getfield 51, 3) := by decide +kernel
theorem dX0_content_33 : decode cX0_content 33 = .ok (.iload_n 3, 1) := by decide +kernel
theorem dX0_content_34 : decode cX0_content 34 = .ok (.invokevirtual 186, 3) := by decide +kernel
theorem dX0_content_37 : decode cX0_content 37 = .ok (.if_icmp .lt 5, 3) := by decide +kernel
theorem dX0_content_40 : decode cX0_content 40 = .ok (.iconst (-1), 1) := by decide +kernel
theorem dX0_content_41 : decode cX0_content 41 = .ok (.ireturn, 1) := by decide +kernel
theorem dX0_content_42 : decode cX0_content 42 = .ok (.aload_n 0, 1) := by decide +kernel
theorem dX0_content_43 : decode cX0_content 43 = .ok (.getfield 23, 3) := by decide +kernel
theorem dX0_content_46 : decode cX0_content 46 = .ok (.aload_n 0, 1) := by decide +kernel
theorem dX0_content_47 : decode cX0_content 47 = .ok (.getfield 51, 3) := by decide +kernel
theorem dX0_content_50 : decode cX0_content 50 = .ok (.iload_n 3, 1) := by decide +kernel
theorem dX0_content_51 : decode cX0_content 51 = .ok (.iload_n 2, 1) := by decide +kernel
theorem dX0_content_52 : decode cX0_content 52 = .ok (.sipush 1024, 3) := by decide +kernel
theorem dX0_content_55 : decode cX0_content 55 = .ok (.idiv, 1) := by decide +kernel
theorem dX0_content_56 : decode cX0_content 56 = .ok (.invokevirtual 198, 3) := by decide +kernel
theorem dX0_content_59 : decode cX0_content 59 = .ok (.sipush 1024, 3) := by decide +kernel
theorem dX0_content_62 : decode cX0_content 62 = .ok (.imul, 1) := by decide +kernel
theorem dX0_content_63 : decode cX0_content 63 = .ok (.iload_n 2, 1) := by decide +kernel
theorem dX0_content_64 : decode cX0_content 64 = .ok (.sipush 1024, 3) := by decide +kernel
theorem dX0_content_67 : decode cX0_content 67 = .ok (.irem, 1) := by decide +kernel
theorem dX0_content_68 : decode cX0_content 68 = .ok (.iadd, 1) := by decide +kernel
theorem dX0_content_69 : decode cX0_content 69 = .ok (.invokevirtual 153, 3) := by decide +kernel
theorem dX0_content_72 : decode cX0_content 72 = .ok (.ireturn, 1) := by decide +kernel
theorem dX10_enter_0 : decode cX10_enter 0 = .ok (.aload_n 2, 1) := by decide +kernel
theorem dX10_enter_1 : decode cX10_enter 1 = .ok (.iconst 0, 1) := by decide +kernel
theorem dX10_enter_2 : decode cX10_enter 2 = .ok (.aload_n 0, 1) := by decide +kernel
theorem dX10_enter_3 : decode cX10_enter 3 = .ok (.iload_n 1, 1) := by decide +kernel
theorem dX10_enter_4 : decode cX10_enter 4 = .ok (.invokevirtual 34, 3) := by decide +kernel
theorem dX10_enter_7 : decode cX10_enter 7 = .ok (.i2l, 1) := by decide +kernel
theorem dX10_enter_8 : decode cX10_enter 8 = .ok (.lastore, 1) := by decide +kernel
theorem dX10_enter_9 : decode cX10_enter 9 = .ok (.goto 12, 3) := by decide +kernel
theorem dX10_enter_12 : decode cX10_enter 12 = .ok (.astore_n 3, 1) := by decide +kernel
theorem dX10_enter_13 : decode cX10_enter 13 = .ok (.iconst 1, 1) := by decide +kernel
theorem dX10_enter_14 : decode cX10_enter 14 = .ok (.ireturn, 1) := by decide +kernel
theorem dX10_enter_15 : decode cX10_enter 15 = .ok (.astore_n 3, 1) := by decide +kernel
theorem dX10_enter_16 : decode cX10_enter 16 = .ok (.iconst 2, 1) := by decide +kernel
theorem dX10_enter_17 : decode cX10_enter 17 = .ok (.ireturn, 1) := by decide +kernel
theorem dX10_enter_18 : decode cX10_enter 18 = .ok (.astore_n 3, 1) := by decide +kernel
theorem dX10_enter_19 : decode cX10_enter 19 = .ok (.iconst 3, 1) := by decide +kernel
theorem dX10_enter_20 : decode cX10_enter 20 = .ok (.ireturn, 1) := by decide +kernel
theorem dX10_enter_21 : decode cX10_enter 21 = .ok (.iconst 0, 1) := by decide +kernel
theorem dX10_enter_22 : decode cX10_enter 22 = .ok (.ireturn, 1) := by decide +kernel
theorem dX0_enter_0 : decode cX0_enter 0 = .ok (.aload_n 0, 1) := by decide +kernel
theorem dX0_enter_1 : decode cX0_enter 1 = .ok (.getfield 60, 3) := by decide +kernel
theorem dX0_enter_4 : decode cX0_enter 4 = .ok (.aload_n 0, 1) := by decide +kernel
theorem dX0_enter_5 : decode cX0_enter 5 = .ok (.iload_n 1, 1) := by decide +kernel
theorem dX0_enter_6 : decode cX0_enter 6 = .ok (.invokevirtual 174, 3) := by decide +kernel
theorem dX0_enter_9 : decode cX0_enter 9 = .ok (.invokevirtual 180, 3) := by decide +kernel
theorem dX0_enter_12 : decode cX0_enter 12 = .ok (.istore_n 2, 1) := by decide +kernel
theorem dX0_enter_13 : decode cX0_enter 13 = .ok (.aload_n 0, 1) := by decide +kernel
theorem dX0_enter_14 : decode cX0_enter 14 = .ok (.getfield 51, 3) := by decide +kernel
theorem dX0_enter_17 : decode cX0_enter 17 = .ok (.iload_n 2, 1) := by decide +kernel
theorem dX0_enter_18 : decode cX0_enter 18 = .ok (.invokevirtual 183, 3) := by decide +kernel
theorem dX0_enter_21 : decode cX0_enter 21 = .ok (.ifCond .ne 13, 3) := by decide +kernel
theorem dX0_enter_24 : decode cX0_enter 24 = .ok (.new 105, 3) := by decide +kernel
theorem dX0_enter_27 : decode cX0_enter 27 = .ok (.dup, 1) := by decide +kernel
theorem dX0_enter_28 : decode cX0_enter 28 = .ok (.ldc 201, 2) := by decide +kernel
theorem dX0_enter_30 : decode cX0_enter 30 = .ok (.invokespecial 109, 3) := by decide +kernel
theorem dX0_enter_33 : decode cX0_enter 33 = .ok (.athrow, 1) := by decide +kernel
theorem dX0_enter_34 : decode cX0_enter 34 = .ok (.aload_n 0, 1) := by decide +kernel
theorem dX0_enter_35 : decode cX0_enter 35 = .ok (.iload_n 2, 1) := by decide +kernel
theorem dX0_enter_36 : decode cX0_enter 36 = .ok (.putfield 89, 3) := by decide +kernel
theorem dX0_enter_39 : decode cX0_enter 39 = .ok (.aload_n 0, 1) := by decide +kernel
theorem dX0_enter_40 : decode cX0_enter 40 = .ok (.getfield 60, 3) := by decide +kernel
theorem dX0_enter_43 : decode cX0_enter 43 = .ok (.aload_n 0, 1) := by decide +kernel
theorem dX0_enter_44 : decode cX0_enter 44 = .ok (.getfield 89, 3) := by decide +kernel
theorem dX0_enter_47 : decode cX0_enter 47 = .ok (.invokevirtual 168, 3) := by decide +kernel
theorem dX0_enter_50 : decode cX0_enter 50 = .ok (.aload_n 0, 1) := by decide +kernel
theorem dX0_enter_51 : decode cX0_enter 51 = .ok (.getfield 60, 3) := by decide +kernel
theorem dX0_enter_54 : decode cX0_enter 54 = .ok (.invokevirtual 171, 3) := by decide +kernel
theorem dX0_enter_57 : decode cX0_enter 57 = .ok (.ireturn, 1) := by decide +kernel
theorem dX10_up_0 : decode cX10_up 0 = .ok (.aload_n 1, 1) := by decide +kernel
theorem dX10_up_1 : decode cX10_up 1 = .ok (.iconst 0, 1) := by decide +kernel
theorem dX10_up_2 : decode cX10_up 2 = .ok (.aload_n 0, 1) := by decide +kernel
theorem dX10_up_3 : decode cX10_up 3 = .ok (.invokevirtual 38, 3) := by decide +kernel
theorem dX10_up_6 : decode cX10_up 6 = .ok (.ifCond .eq 7, 3) := by decide +kernel
theorem dX10_up_9 : decode cX10_up 9 = .ok (.lconst 1, 1) := by decide +kernel
theorem dX10_up_10 : decode cX10_up 10 = .ok (.goto 4, 3) := by decide +kernel
theorem dX10_up_13 : decode cX10_up 13 = .ok (.lconst 0, 1) := by decide +kernel
theorem dX10_up_14 : decode cX10_up 14 = .ok (.lastore, 1) := by decide +kernel
theorem dX10_up_15 : decode cX10_up 15 = .ok (.goto 6, 3) := by decide +kernel
theorem dX10_up_18 : decode cX10_up 18 = .ok (.astore_n 2, 1) := by decide +kernel
theorem dX10_up_19 : decode cX10_up 19 = .ok (.iconst 1, 1) := by decide +kernel
theorem dX10_up_20 : decode cX10_up 20 = .ok (.ireturn, 1) := by decide +kernel
theorem dX10_up_21 : decode cX10_up 21 = .ok (.iconst 0, 1) := by decide +kernel
theorem dX10_up_22 : decode cX10_up 22 = .ok (.ireturn, 1) := by decide +kernel
theorem dX0_up_0 : decode cX0_up 0 = .ok (.aload_n 0, 1) := by decide +kernel
theorem dX0_up_1 : decode cX0_up 1 = .ok (.invokevirtual 165, 3) := by decide +kernel
theorem dX0_up_4 : decode cX0_up 4 = .ok (.aload_n 0, 1) := by decide +kernel
theorem dX0_up_5 : decode cX0_up 5 = .ok (.getfield 89, 3) := by decide +kernel
theorem dX0_up_8 : decode cX0_up 8 = .ok (.iconst 2, 1) := by decide +kernel
theorem dX0_up_9 : decode cX0_up 9 = .ok (.if_icmp .ne 5, 3) := by decide +kernel
theorem dX0_up_12 : decode cX0_up 12 = .ok (.iconst 0, 1) := by decide +kernel
theorem dX0_up_13 : decode cX0_up 13 = .ok (.ireturn, 1) := by decide +kernel
theorem dX0_up_14 : decode cX0_up 14 = .ok (.aload_n 0, 1) := by decide +kernel
theorem dX0_up_15 : decode cX0_up 15 = .ok (.getfield 60, 3) := by decide +kernel
theorem dX0_up_18 : decode cX0_up 18 = .ok (.aload_n 0, 1) := by decide +kernel
theorem dX0_up_19 : decode cX0_up 19 = .ok (.getfield 89, 3) := by decide +kernel
theorem dX0_up_22 : decode cX0_up 22 = .ok (.invokevirtual 168, 3) := by decide +kernel
theorem dX0_up_25 : decode cX0_up 25 = .ok (.aload_n 0, 1) := by decide +kernel
theorem dX0_up_26 : decode cX0_up 26 = .ok (.aload_n 0, 1) := by decide +kernel
theorem dX0_up_27 : decode cX0_up 27 = .ok (.getfield 60, 3) := by decide +kernel
theorem dX0_up_30 : decode cX0_up 30 = .ok (.invokevirtual 203, 3) := by decide +kernel
theorem dX0_up_33 : decode cX0_up 33 = .ok (.putfield 89, 3) := by decide +kernel
theorem dX0_up_36 : decode cX0_up 36 = .ok (.iconst 1, 1) := by decide +kernel
theorem dX0_up_37 : decode cX0_up 37 = .ok (.ireturn, 1) := by decide +kernel
theorem dX10_make_0 : decode cX10_make 0 = .ok (.aload_n 2, 1) := by decide +kernel
theorem dX10_make_1 : decode cX10_make 1 = .ok (.iconst 0, 1) := by decide +kernel
theorem dX10_make_2 : decode cX10_make 2 = .ok (.aload_n 0, 1) := by decide +kernel
theorem dX10_make_3 : decode cX10_make 3 = .ok (.iload_n 1, 1) := by decide +kernel
theorem dX10_make_4 : decode cX10_make 4 = .ok (.invokevirtual 42, 3) := by decide +kernel
theorem dX10_make_7 : decode cX10_make 7 = .ok (.i2l, 1) := by decide +kernel
theorem dX10_make_8 : decode cX10_make 8 = .ok (.lastore, 1) := by decide +kernel
theorem dX10_make_9 : decode cX10_make 9 = .ok (.goto 12, 3) := by decide +kernel
theorem dX10_make_12 : decode cX10_make 12 = .ok (.astore_n 3, 1) := by decide +kernel
theorem dX10_make_13 : decode cX10_make 13 = .ok (.iconst 1, 1) := by decide +kernel
theorem dX10_make_14 : decode cX10_make 14 = .ok (.ireturn, 1) := by decide +kernel
theorem dX10_make_15 : decode cX10_make 15 = .ok (.astore_n 3, 1) := by decide +kernel
theorem dX10_make_16 : decode cX10_make 16 = .ok (.iconst 2, 1) := by decide +kernel
theorem dX10_make_17 : decode cX10_make 17 = .ok (.ireturn, 1) := by decide +kernel
theorem dX10_make_18 : decode cX10_make 18 = .ok (.astore_n 3, 1) := by decide +kernel
theorem dX10_make_19 : decode cX10_make 19 = .ok (.iconst 3, 1) := by decide +kernel
theorem dX10_make_20 : decode cX10_make 20 = .ok (.ireturn, 1) := by decide +kernel
theorem dX10_make_21 : decode cX10_make 21 = .ok (.iconst 0, 1) := by decide +kernel
theorem dX10_make_22 : decode cX10_make 22 = .ok (.ireturn, 1) := by decide +kernel
theorem dX0_make_0 : decode cX0_make 0 = .ok (.aload_n 0, 1) := by decide +kernel
theorem dX0_make_1 : decode cX0_make 1 = .ok (.getfield 85, 3) := by decide +kernel
theorem dX0_make_4 : decode cX0_make 4 = .ok (.invokevirtual 206, 3) := by decide +kernel
theorem dX0_make_7 : decode cX0_make 7 = .ok (.istore_n 2, 1) := by decide +kernel
theorem dX0_make_8 : decode cX0_make 8 = .ok (.aload_n 0, 1) := by decide +kernel
theorem dX0_make_9 : decode cX0_make 9 = .ok (.invokevirtual 165, 3) := by decide +kernel
theorem dX0_make_12 : decode cX0_make 12 = .ok (.aload_n 0, 1) := by decide +kernel
theorem dX0_make_13 : decode cX0_make 13 = .ok (.getfield 60, 3) := by decide +kernel
theorem dX0_make_16 : decode cX0_make 16 = .ok (.aload_n 0, 1) := by decide +kernel
theorem dX0_make_17 : decode cX0_make 17 = .ok (.getfield 89, 3) := by decide +kernel
theorem dX0_make_20 : decode cX0_make 20 = .ok (.invokevirtual 168, 3) := by decide +kernel
theorem dX0_make_23 : decode cX0_make 23 = .ok (.aload_n 0, 1) := by decide +kernel
theorem dX0_make_24 : decode cX0_make 24 = .ok (.getfield 85, 3) := by decide +kernel
theorem dX0_make_27 : decode cX0_make 27 = .ok (.iload_n 2, 1) := by decide +kernel
theorem dX0_make_28 : decode cX0_make 28 = .ok (.invokevirtual 209, 3) := by decide +kernel
theorem dX0_make_31 : decode cX0_make 31 = .ok (.ifCond .eq 18, 3) := by decide +kernel
theorem dX0_make_34 : decode cX0_make 34 = .ok (.aload_n 0, 1) := by decide +kernel
theorem dX0_make_35 : decode cX0_make 35 = .ok (.getfield 60, 3) := by decide +kernel
theorem dX0_make_38 : decode cX0_make 38 = .ok (.aload_n 0, 1) := by decide +kernel
theorem dX0_make_39 : decode cX0_make 39 = .ok (.getfield 85, 3) := by decide +kernel
theorem dX0_make_42 : decode cX0_make 42 = .ok (.iload_n 2, 1) := by decide +kernel
theorem dX0_make_43 : decode cX0_make 43 = .ok (.invokevirtual 212, 3) := by decide +kernel
theorem dX0_make_46 : decode cX0_make 46 = .ok (.ifCond .eq 13, 3) := by decide +kernel
theorem dX0_make_49 : decode cX0_make 49 = .ok (.new 105, 3) := by decide +kernel
theorem dX0_make_52 : decode cX0_make 52 = .ok (.dup, 1) := by decide +kernel
theorem dX0_make_53 : decode cX0_make 53 = .ok (.ldc 216, 2) := by decide +kernel
theorem dX0_make_55 : decode cX0_make 55 = .ok (.invokespecial 109, 3) := by decide +kernel
theorem dX0_make_58 : decode cX0_make 58 = .ok (.athrow, 1) := by decide +kernel
theorem dX0_make_59 : decode cX0_make 59 = .ok (.aload_n 0, 1) := by decide +kernel
theorem dX0_make_60 : decode cX0_make 60 = .ok (.getfield 60, 3) := by decide +kernel
theorem dX0_make_63 : decode cX0_make 63 = .ok (.iload_n 2, 1) := by decide +kernel
theorem dX0_make_64 : decode cX0_make 64 = .ok (.invokevirtual 218, 3) := by decide +kernel
theorem dX0_make_67 : decode cX0_make 67 = .ok (.istore_n 3, 1) := by decide +kernel
theorem dX0_make_68 : decode cX0_make 68 = .ok (.iload_n 1, 1) := by decide +kernel
theorem dX0_make_69 : decode cX0_make 69 = .ok (.ifCond .eq 7, 3) := by decide +kernel
theorem dX0_make_72 : decode cX0_make 72 = .ok (.iconst 1, 1) := by decide +kernel
theorem dX0_make_73 : decode cX0_make 73 = .ok (.goto 4, 3) := by decide +kernel
theorem dX0_make_76 : decode cX0_make 76 = .ok (.iconst 0, 1) := by decide +kernel
theorem dX0_make_77 : decode cX0_make 77 = .ok (.istore 4, 2) := by decide +kernel
theorem dX0_make_79 : decode cX0_make 79 = .ok (.iload_n 3, 1) := by decide +kernel
theorem dX0_make_80 : decode cX0_make 80 = .ok (.iconst (-1), 1) := by decide +kernel
theorem dX0_make_81 : decode cX0_make 81 = .ok (.if_icmp .ne 22, 3) := by decide +kernel
theorem dX0_make_84 : decode cX0_make 84 = .ok (.iload 4, 2) := by decide +kernel
theorem dX0_make_86 : decode cX0_make 86 = .ok (.aload_n 0, 1) := by decide +kernel
theorem dX0_make_87 : decode cX0_make 87 = .ok (.getfield 51, 3) := by decide +kernel
theorem dX0_make_90 : decode cX0_make 90 = .ok (.aload_n 0, 1) := by decide +kernel
theorem dX0_make_91 : decode cX0_make 91 = .ok (.getfield 89, 3) := by decide +kernel
theorem dX0_make_94 : decode cX0_make 94 = .ok (.sipush 1024, 3) := by decide +kernel
theorem dX0_make_97 : decode cX0_make 97 = .ok (.invokevirtual 221, 3) := by decide +kernel
theorem dX0_make_100 : decode cX0_make 100 = .ok (.iadd, 1) := by decide +kernel
theorem dX0_make_101 : decode cX0_make 101 = .ok (.istore 4, 2) := by decide +kernel
theorem dX0_make_103 : decode cX0_make 103 = .ok (.aload_n 0, 1) := by decide +kernel
theorem dX0_make_104 : decode cX0_make 104 = .ok (.getfield 43, 3) := by decide +kernel
theorem dX0_make_107 : decode cX0_make 107 = .ok (.invokevirtual 146, 3) := by decide +kernel
theorem dX0_make_110 : decode cX0_make 110 = .ok (.iconst 1, 1) := by decide +kernel
theorem dX0_make_111 : decode cX0_make 111 = .ok (.if_icmp .lt 15, 3) := by decide +kernel
theorem dX0_make_114 : decode cX0_make 114 = .ok (.aload_n 0, 1) := by decide +kernel
theorem dX0_make_115 : decode cX0_make 115 = .ok (.getfield 39, 3) := by decide +kernel
theorem dX0_make_118 : decode cX0_make 118 = .ok (.invokevirtual 146, 3) := by decide +kernel
theorem dX0_make_121 : decode cX0_make 121 = .ok (.iload 4, 2) := by decide +kernel
theorem dX0_make_123 : decode cX0_make 123 = .ok (.if_icmp .ge 13, 3) := by decide +kernel
theorem dX0_make_126 : decode cX0_make 126 = .ok (.new 224, 3) := by decide +kernel
theorem dX0_make_129 : decode cX0_make 129 = .ok (.dup, 1) := by decide +kernel
theorem dX0_make_130 : decode cX0_make 130 = .ok (.ldc 226, 2) := by decide +kernel
theorem dX0_make_132 : decode cX0_make 132 = .ok (.invokespecial 228, 3) := by decide +kernel
theorem dX0_make_135 : decode cX0_make 135 = .ok (.athrow, 1) := by decide +kernel
theorem dX0_make_136 : decode cX0_make 136 = .ok (.aload_n 0, 1) := by decide +kernel
theorem dX0_make_137 : decode cX0_make 137 = .ok (.getfield 43, 3) := by decide +kernel
theorem dX0_make_140 : decode cX0_make 140 = .ok (.invokevirtual 126, 3) := by decide +kernel
theorem dX0_make_143 : decode cX0_make 143 = .ok (.istore 5, 2) := by decide +kernel
theorem dX0_make_145 : decode cX0_make 145 = .ok (.iload_n 3, 1) := by decide +kernel
theorem dX0_make_146 : decode cX0_make 146 = .ok (.iconst (-1), 1) := by decide +kernel
theorem dX0_make_147 : decode cX0_make 147 = .ok (.if_icmp .ne 24, 3) := by decide +kernel
theorem dX0_make_150 : decode cX0_make 150 = .ok (.aload_n 0, 1) := by decide +kernel
theorem dX0_make_151 : decode cX0_make 151 = .ok (.getfield 60, 3) := by decide +kernel
theorem dX0_make_154 : decode cX0_make 154 = .ok (.aload_n 0, 1) := by decide +kernel
theorem dX0_make_155 : decode cX0_make 155 = .ok (.getfield 51, 3) := by decide +kernel
theorem dX0_make_158 : decode cX0_make 158 = .ok (.aload_n 0, 1) := by decide +kernel
theorem dX0_make_159 : decode cX0_make 159 = .ok (.getfield 89, 3) := by decide +kernel
theorem dX0_make_162 : decode cX0_make 162 = .ok (.invokevirtual 136, 3) := by decide +kernel
theorem dX0_make_165 : decode cX0_make 165 = .ok (.invokevirtual 229, 3) := by decide +kernel
theorem dX0_make_168 : decode cX0_make 168 = .ok (.goto 11, 3) := by decide +kernel
theorem dX0_make_171 : decode cX0_make 171 = .ok (.aload_n 0, 1) := by decide +kernel
theorem dX0_make_172 : decode cX0_make 172 = .ok (.getfield 60, 3) := by decide +kernel
theorem dX0_make_175 : decode cX0_make 175 = .ok (.iload_n 3, 1) := by decide +kernel
theorem dX0_make_176 : decode cX0_make 176 = .ok (.invokevirtual 232, 3) := by decide +kernel
theorem dX0_make_179 : decode cX0_make 179 = .ok (.istore 6, 2) := by decide +kernel
theorem dX0_make_181 : decode cX0_make 181 = .ok (.aload_n 0, 1) := by decide +kernel
theorem dX0_make_182 : decode cX0_make 182 = .ok (.getfield 60, 3) := by decide +kernel
theorem dX0_make_185 : decode cX0_make 185 = .ok (.iload 6, 2) := by decide +kernel
theorem dX0_make_187 : decode cX0_make 187 = .ok (.iload 5, 2) := by decide +kernel
theorem dX0_make_189 : decode cX0_make 189 = .ok (.iload_n 1, 1) := by decide +kernel
theorem dX0_make_190 : decode cX0_make 190 = .ok (.aload_n 0, 1) := by decide +kernel
theorem dX0_make_191 : decode cX0_make 191 = .ok (.getfield 85, 3) := by decide +kernel
theorem dX0_make_194 : decode cX0_make 194 = .ok (.iload_n 2, 1) := by decide +kernel
theorem dX0_make_195 : decode cX0_make 195 = .ok (.invokevirtual 235, 3) := by decide +kernel
theorem dX0_make_198 : decode cX0_make 198 = .ok (.aload_n 0, 1) := by decide +kernel
theorem dX0_make_199 : decode cX0_make 199 = .ok (.getfield 51, 3) := by decide +kernel
theorem dX0_make_202 : decode cX0_make 202 = .ok (.iload 5, 2) := by decide +kernel
theorem dX0_make_204 : decode cX0_make 204 = .ok (.iload_n 1, 1) := by decide +kernel
theorem dX0_make_205 : decode cX0_make 205 = .ok (.invokevirtual 129, 3) := by decide +kernel
theorem dX0_make_208 : decode cX0_make 208 = .ok (.iload_n 1, 1) := by decide +kernel
theorem dX0_make_209 : decode cX0_make 209 = .ok (.ifCond .eq 47, 3) := by decide +kernel
theorem dX0_make_212 : decode cX0_make 212 = .ok (.aload_n 0, 1) := by decide +kernel
theorem dX0_make_213 : decode cX0_make 213 = .ok (.getfield 51, 3) := by decide +kernel
theorem dX0_make_216 : decode cX0_make 216 = .ok (.iload 5, 2) := by decide +kernel
theorem dX0_make_218 : decode cX0_make 218 = .ok (.iconst 1, 1) := by decide +kernel
theorem dX0_make_219 : decode cX0_make 219 = .ok (.invokevirtual 133, 3) := by decide +kernel
theorem dX0_make_222 : decode cX0_make 222 = .ok (.aload_n 0, 1) := by decide +kernel
theorem dX0_make_223 : decode cX0_make 223 = .ok (.getfield 51, 3) := by decide +kernel
theorem dX0_make_226 : decode cX0_make 226 = .ok (.aload_n 0, 1) := by decide +kernel
theorem dX0_make_227 : decode cX0_make 227 = .ok (.getfield 89, 3) := by decide +kernel
theorem dX0_make_230 : decode cX0_make 230 = .ok (.iconst 1, 1) := by decide +kernel
theorem dX0_make_231 : decode cX0_make 231 = .ok (.invokevirtual 239, 3) := by decide +kernel
theorem dX0_make_234 : decode cX0_make 234 = .ok (.aload_n 0, 1) := by decide +kernel
theorem dX0_make_235 : decode cX0_make 235 = .ok (.getfield 60, 3) := by decide +kernel
theorem dX0_make_238 : decode cX0_make 238 = .ok (.aload_n 0, 1) := by decide +kernel
theorem dX0_make_239 : decode cX0_make 239 = .ok (.getfield 51, 3) := by decide +kernel
theorem dX0_make_242 : decode cX0_make 242 = .ok (.iload 5, 2) := by decide +kernel
theorem dX0_make_244 : decode cX0_make 244 = .ok (.invokevirtual 136, 3) := by decide +kernel
theorem dX0_make_247 : decode cX0_make 247 = .ok (.iload 5, 2) := by decide +kernel
theorem dX0_make_249 : decode cX0_make 249 = .ok (.aload_n 0, 1) := by decide +kernel
theorem dX0_make_250 : decode cX0_make 250 = .ok (.getfield 89, 3) := by decide +kernel
theorem dX0_make_253 : decode cX0_make 253 = .ok (.invokevirtual 139, 3) := by decide +kernel
theorem dX0_make_256 : decode cX0_make 256 = .ok (.aload_n 0, 1) := by decide +kernel
theorem dX0_make_257 : decode cX0_make 257 = .ok (.getfield 60, 3) := by decide +kernel
theorem dX0_make_260 : decode cX0_make 260 = .ok (.aload_n 0, 1) := by decide +kernel
theorem dX0_make_261 : decode cX0_make 261 = .ok (.getfield 89, 3) := by decide +kernel
theorem dX0_make_264 : decode cX0_make 264 = .ok (.invokevirtual 168, 3) := by decide +kernel
theorem dX0_make_267 : decode cX0_make 267 = .ok (.aload_n 0, 1) := by decide +kernel
theorem dX0_make_268 : decode cX0_make 268 = .ok (.getfield 60, 3) := by decide +kernel
theorem dX0_make_271 : decode cX0_make 271 = .ok (.iload 6, 2) := by decide +kernel
theorem dX0_make_273 : decode cX0_make 273 = .ok (.invokevirtual 242, 3) := by decide +kernel
theorem dX0_make_276 : decode cX0_make 276 = .ok (.ireturn, 1) := by decide +kernel
theorem dX8_drain_0 : decode cX8_drain 0 = .ok (.aload_n 0, 1) := by decide +kernel
theorem dX8_drain_1 : decode cX8_drain 1 = .ok (.getfield 18, 3) := by decide +kernel
theorem dX8_drain_4 : decode cX8_drain 4 = .ok (.istore_n 1, 1) := by decide +kernel
theorem dX8_drain_5 : decode cX8_drain 5 = .ok (.aload_n 0, 1) := by decide +kernel
theorem dX8_drain_6 : decode cX8_drain 6 = .ok (.iconst 0, 1) := by decide +kernel
theorem dX8_drain_7 : decode cX8_drain 7 = .ok (.putfield 18, 3) := by decide +kernel
theorem dX8_drain_10 : decode cX8_drain 10 = .ok (.iload_n 1, 1) := by decide +kernel
theorem dX8_drain_11 : decode cX8_drain 11 = .ok (.ireturn, 1) := by decide +kernel
theorem dX8_isName_0 : decode cX8_isName 0 = .ok (.iload_n 1, 1) := by decide +kernel
theorem dX8_isName_1 : decode cX8_isName 1 = .ok (.iconst 1, 1) := by decide +kernel
theorem dX8_isName_2 : decode cX8_isName 2 = .ok (.if_icmp .lt 10, 3) := by decide +kernel
theorem dX8_isName_5 : decode cX8_isName 5 = .ok (.iload_n 1, 1) := by decide +kernel
theorem dX8_isName_6 : decode cX8_isName 6 = .ok (.sipush 255, 3) := by decide +kernel
theorem dX8_isName_9 : decode cX8_isName 9 = .ok (.if_icmp .le 5, 3) := by decide +kernel
theorem dX8_isName_12 : decode cX8_isName 12 = .ok (.iconst 0, 1) := by decide +kernel
theorem dX8_isName_13 : decode cX8_isName 13 = .ok (.ireturn, 1) := by decide +kernel
theorem dX8_isName_14 : decode cX8_isName 14 = .ok (.iconst 0, 1) := by decide +kernel
theorem dX8_isName_15 : decode cX8_isName 15 = .ok (.istore_n 2, 1) := by decide +kernel
theorem dX8_isName_16 : decode cX8_isName 16 = .ok (.iload_n 2, 1) := by decide +kernel
theorem dX8_isName_17 : decode cX8_isName 17 = .ok (.iload_n 1, 1) := by decide +kernel
theorem dX8_isName_18 : decode cX8_isName 18 = .ok (.if_icmp .ge 29, 3) := by decide +kernel
theorem dX8_isName_21 : decode cX8_isName 21 = .ok (.aload_n 0, 1) := by decide +kernel
theorem dX8_isName_22 : decode cX8_isName 22 = .ok (.iload_n 2, 1) := by decide +kernel
theorem dX8_isName_23 : decode cX8_isName 23 = .ok (.invokevirtual 34, 3) := by decide +kernel
theorem dX8_isName_26 : decode cX8_isName 26 = .ok (.ifCond .eq 13, 3) := by decide +kernel
theorem dX8_isName_29 : decode cX8_isName 29 = .ok (.aload_n 0, 1) := by decide +kernel
theorem dX8_isName_30 : decode cX8_isName 30 = .ok (.iload_n 2, 1) := by decide +kernel
theorem dX8_isName_31 : decode cX8_isName 31 = .ok (.invokevirtual 34, 3) := by decide +kernel
theorem dX8_isName_34 : decode cX8_isName 34 = .ok (.bipush 47, 2) := by decide +kernel
theorem dX8_isName_36 : decode cX8_isName 36 = .ok (.if_icmp .ne 5, 3) := by decide +kernel
theorem dX8_isName_39 : decode cX8_isName 39 = .ok (.iconst 0, 1) := by decide +kernel
theorem dX8_isName_40 : decode cX8_isName 40 = .ok (.ireturn, 1) := by decide +kernel
theorem dX8_isName_41 : decode cX8_isName 41 = .ok (.iinc 2 1, 3) := by decide +kernel
theorem dX8_isName_44 : decode cX8_isName 44 = .ok (.goto (-28), 3) := by decide +kernel
theorem dX8_isName_47 : decode cX8_isName 47 = .ok (.aload_n 0, 1) := by decide +kernel
theorem dX8_isName_48 : decode cX8_isName 48 = .ok (.iconst 0, 1) := by decide +kernel
theorem dX8_isName_49 : decode cX8_isName 49 = .ok (.invokevirtual 34, 3) := by decide +kernel
theorem dX8_isName_52 : decode cX8_isName 52 = .ok (.bipush 46, 2) := by decide +kernel
theorem dX8_isName_54 : decode cX8_isName 54 = .ok (.if_icmp .ne 27, 3) := by decide +kernel
theorem dX8_isName_57 : decode cX8_isName 57 = .ok (.iload_n 1, 1) := by decide +kernel
theorem dX8_isName_58 : decode cX8_isName 58 = .ok (.iconst 1, 1) := by decide +kernel
theorem dX8_isName_59 : decode cX8_isName 59 = .ok (.if_icmp .eq 18, 3) := by decide +kernel
theorem dX8_isName_62 : decode cX8_isName 62 = .ok (.iload_n 1, 1) := by decide +kernel
theorem dX8_isName_63 : decode cX8_isName 63 = .ok (.iconst 2, 1) := by decide +kernel
theorem dX8_isName_64 : decode cX8_isName 64 = .ok (.if_icmp .ne 17, 3) := by decide +kernel
theorem dX8_isName_67 : decode cX8_isName 67 = .ok (.aload_n 0, 1) := by decide +kernel
theorem dX8_isName_68 : decode cX8_isName 68 = .ok (.iconst 1, 1) := by decide +kernel
theorem dX8_isName_69 : decode cX8_isName 69 = .ok (.invokevirtual 34, 3) := by decide +kernel
theorem dX8_isName_72 : decode cX8_isName 72 = .ok (.bipush 46, 2) := by decide +kernel
theorem dX8_isName_74 : decode cX8_isName 74 = .ok (.if_icmp .ne 7, 3) := by decide +kernel
theorem dX8_isName_77 : decode cX8_isName 77 = .ok (.iconst 1, 1) := by decide +kernel
theorem dX8_isName_78 : decode cX8_isName 78 = .ok (.goto 4, 3) := by decide +kernel
theorem dX8_isName_81 : decode cX8_isName 81 = .ok (.iconst 0, 1) := by decide +kernel
theorem dX8_isName_82 : decode cX8_isName 82 = .ok (.istore_n 2, 1) := by decide +kernel
theorem dX8_isName_83 : decode cX8_isName 83 = .ok (.iload_n 2, 1) := by decide +kernel
theorem dX8_isName_84 : decode cX8_isName 84 = .ok (.ifCond .ne 7, 3) := by decide +kernel
theorem dX8_isName_87 : decode cX8_isName 87 = .ok (.iconst 1, 1) := by decide +kernel
theorem dX8_isName_88 : decode cX8_isName 88 = .ok (.goto 4, 3) := by decide +kernel
theorem dX8_isName_91 : decode cX8_isName 91 = .ok (.iconst 0, 1) := by decide +kernel
theorem dX8_isName_92 : decode cX8_isName 92 = .ok (.ireturn, 1) := by decide +kernel
theorem dX8_valueAt_0 : decode cX8_valueAt 0 = .ok (.iload_n 1, 1) := by decide +kernel
theorem dX8_valueAt_1 : decode cX8_valueAt 1 = .ok (.ifCond .lt 25, 3) := by decide +kernel
theorem dX8_valueAt_4 : decode cX8_valueAt 4 = .ok (.iload_n 1, 1) := by decide +kernel
theorem dX8_valueAt_5 : decode cX8_valueAt 5 = .ok (.aload_n 0, 1) := by decide +kernel
theorem dX8_valueAt_6 : decode cX8_valueAt 6 = .ok (.getfield 9, 3) := by decide +kernel
theorem dX8_valueAt_9 : decode cX8_valueAt 9 = .ok (.arraylength, 1) := by decide +kernel
theorem dX8_valueAt_10 : decode cX8_valueAt 10 = .ok (.if_icmp .ge 16, 3) := by decide +kernel
theorem dX8_valueAt_13 : decode cX8_valueAt 13 = .ok (.aload_n 0, 1) := by decide +kernel
theorem dX8_valueAt_14 : decode cX8_valueAt 14 = .ok (.getfield 9, 3) := by decide +kernel
theorem dX8_valueAt_17 : decode cX8_valueAt 17 = .ok (.iload_n 1, 1) := by decide +kernel
theorem dX8_valueAt_18 : decode cX8_valueAt 18 = .ok (.baload, 1) := by decide +kernel
theorem dX8_valueAt_19 : decode cX8_valueAt 19 = .ok (.sipush 255, 3) := by decide +kernel
theorem dX8_valueAt_22 : decode cX8_valueAt 22 = .ok (.iand, 1) := by decide +kernel
theorem dX8_valueAt_23 : decode cX8_valueAt 23 = .ok (.goto 4, 3) := by decide +kernel
theorem dX8_valueAt_26 : decode cX8_valueAt 26 = .ok (.iconst 0, 1) := by decide +kernel
theorem dX8_valueAt_27 : decode cX8_valueAt 27 = .ok (.ireturn, 1) := by decide +kernel
theorem dX5_has_0 : decode cX5_has 0 = .ok (.iconst 2, 1) := by decide +kernel
theorem dX5_has_1 : decode cX5_has 1 = .ok (.istore_n 3, 1) := by decide +kernel
theorem dX5_has_2 : decode cX5_has 2 = .ok (.iload_n 3, 1) := by decide +kernel
theorem dX5_has_3 : decode cX5_has 3 = .ok (.aload_n 0, 1) := by decide +kernel
theorem dX5_has_4 : decode cX5_has 4 = .ok (.getfield 23, 3) := by decide +kernel
theorem dX5_has_7 : decode cX5_has 7 = .ok (.if_icmp .ge 29, 3) := by decide +kernel
theorem dX5_has_10 : decode cX5_has 10 = .ok (.aload_n 0, 1) := by decide +kernel
theorem dX5_has_11 : decode cX5_has 11 = .ok (.iload_n 3, 1) := by decide +kernel
theorem dX5_has_12 : decode cX5_has 12 = .ok (.invokevirtual 65, 3) := by decide +kernel
theorem dX5_has_15 : decode cX5_has 15 = .ok (.ifCond .eq 15, 3) := by decide +kernel
theorem dX5_has_18 : decode cX5_has 18 = .ok (.aload_n 0, 1) := by decide +kernel
theorem dX5_has_19 : decode cX5_has 19 = .ok (.iload_n 3, 1) := by decide +kernel
theorem dX5_has_20 : decode cX5_has 20 = .ok (.aload_n 1, 1) := by decide +kernel
theorem dX5_has_21 : decode cX5_has 21 = .ok (.iload_n 2, 1) := by decide +kernel
theorem dX5_has_22 : decode cX5_has 22 = .ok (.invokevirtual 68, 3) := by decide +kernel
theorem dX5_has_25 : decode cX5_has 25 = .ok (.ifCond .eq 5, 3) := by decide +kernel
theorem dX5_has_28 : decode cX5_has 28 = .ok (.iconst 1, 1) := by decide +kernel
theorem dX5_has_29 : decode cX5_has 29 = .ok (.ireturn, 1) := by decide +kernel
theorem dX5_has_30 : decode cX5_has 30 = .ok (.iinc 3 1, 3) := by decide +kernel
theorem dX5_has_33 : decode cX5_has 33 = .ok (.goto (-31), 3) := by decide +kernel
theorem dX5_has_36 : decode cX5_has 36 = .ok (.iconst 0, 1) := by decide +kernel
theorem dX5_has_37 : decode cX5_has 37 = .ok (.ireturn, 1) := by decide +kernel
theorem dX5_isNamed_0 : decode cX5_isNamed 0 = .ok (.aload_n 0, 1) := by decide +kernel
theorem dX5_isNamed_1 : decode cX5_isNamed 1 = .ok (.iload_n 1, 1) := by decide +kernel
theorem dX5_isNamed_2 : decode cX5_isNamed 2 = .ok (.invokevirtual 72, 3) := by decide +kernel
theorem dX5_isNamed_5 : decode cX5_isNamed 5 = .ok (.iload_n 3, 1) := by decide +kernel
theorem dX5_isNamed_6 : decode cX5_isNamed 6 = .ok (.if_icmp .eq 5, 3) := by decide +kernel
theorem dX5_isNamed_9 : decode cX5_isNamed 9 = .ok (.iconst 0, 1) := by decide +kernel
theorem dX5_isNamed_10 : decode cX5_isNamed 10 = .ok (.ireturn, 1) := by decide +kernel
theorem dX5_isNamed_11 : decode cX5_isNamed 11 = .ok (.iconst 0, 1) := by decide +kernel
theorem dX5_isNamed_12 : decode cX5_isNamed 12 = .ok (.istore 4, 2) := by decide +kernel
theorem dX5_isNamed_14 : decode cX5_isNamed 14 = .ok (.iload 4, 2) := by decide +kernel
theorem dX5_isNamed_16 : decode cX5_isNamed 16 = .ok (.iload_n 3, 1) := by decide +kernel
theorem dX5_isNamed_17 : decode cX5_isNamed 17 = .ok (.if_icmp .ge 27, 3) := by decide +kernel
theorem dX5_isNamed_20 : decode cX5_isNamed 20 = .ok (.aload_n 0, 1) := by decide +kernel
theorem dX5_isNamed_21 : decode cX5_isNamed 21 = .ok (.iload_n 1, 1) := by decide +kernel
theorem dX5_isNamed_22 : decode cX5_isNamed 22 = .ok (.iload 4, 2) := by decide +kernel
theorem dX5_isNamed_24 : decode cX5_isNamed 24 = .ok (.invokevirtual 75, 3) := by decide +kernel
theorem dX5_isNamed_27 : decode cX5_isNamed 27 = .ok (.aload_n 2, 1) := by decide +kernel
theorem dX5_isNamed_28 : decode cX5_isNamed 28 = .ok (.iload 4, 2) := by decide +kernel
theorem dX5_isNamed_30 : decode cX5_isNamed 30 = .ok (.invokevirtual 78, 3) := by decide +kernel
theorem dX5_isNamed_33 : decode cX5_isNamed 33 = .ok (.if_icmp .eq 5, 3) := by decide +kernel
theorem dX5_isNamed_36 : decode cX5_isNamed 36 = .ok (.iconst 0, 1) := by decide +kernel
theorem dX5_isNamed_37 : decode cX5_isNamed 37 = .ok (.ireturn, 1) := by decide +kernel
theorem dX5_isNamed_38 : decode cX5_isNamed 38 = .ok (.iinc 4 1, 3) := by decide +kernel
theorem dX5_isNamed_41 : decode cX5_isNamed 41 = .ok (.goto (-27), 3) := by decide +kernel
theorem dX5_isNamed_44 : decode cX5_isNamed 44 = .ok (.iconst 1, 1) := by decide +kernel
theorem dX5_isNamed_45 : decode cX5_isNamed 45 = .ok (.ireturn, 1) := by decide +kernel
theorem dX11_valueAt_0 : decode cX11_valueAt 0 = .ok (.aload_n 0, 1) := by decide +kernel
theorem dX11_valueAt_1 : decode cX11_valueAt 1 = .ok (.getfield 7, 3) := by decide +kernel
theorem dX11_valueAt_4 : decode cX11_valueAt 4 = .ok (.iload_n 1, 1) := by decide +kernel
theorem dX11_valueAt_5 : decode cX11_valueAt 5 = .ok (.iload_n 1, 1) := by decide +kernel
theorem dX11_valueAt_6 : decode cX11_valueAt 6 = .ok (.imul, 1) := by decide +kernel
theorem dX11_valueAt_7 : decode cX11_valueAt 7 = .ok (.iadd, 1) := by decide +kernel
theorem dX11_valueAt_8 : decode cX11_valueAt 8 = .ok (.iload_n 1, 1) := by decide +kernel
theorem dX11_valueAt_9 : decode cX11_valueAt 9 = .ok (.bipush 8, 2) := by decide +kernel
theorem dX11_valueAt_11 : decode cX11_valueAt 11 = .ok (.ishr, 1) := by decide +kernel
theorem dX11_valueAt_12 : decode cX11_valueAt 12 = .ok (.iadd, 1) := by decide +kernel
theorem dX11_valueAt_13 : decode cX11_valueAt 13 = .ok (.sipush 255, 3) := by decide +kernel
theorem dX11_valueAt_16 : decode cX11_valueAt 16 = .ok (.iand, 1) := by decide +kernel
theorem dX11_valueAt_17 : decode cX11_valueAt 17 = .ok (.ireturn, 1) := by decide +kernel
theorem dX5_roomFor_0 : decode cX5_roomFor 0 = .ok (.iload_n 1, 1) := by decide +kernel
theorem dX5_roomFor_1 : decode cX5_roomFor 1 = .ok (.invokestatic 62, 3) := by decide +kernel
theorem dX5_roomFor_4 : decode cX5_roomFor 4 = .ok (.istore_n 2, 1) := by decide +kernel
theorem dX5_roomFor_5 : decode cX5_roomFor 5 = .ok (.iconst 0, 1) := by decide +kernel
theorem dX5_roomFor_6 : decode cX5_roomFor 6 = .ok (.istore_n 3, 1) := by decide +kernel
theorem dX5_roomFor_7 : decode cX5_roomFor 7 = .ok (.iload_n 3, 1) := by decide +kernel
theorem dX5_roomFor_8 : decode cX5_roomFor 8 = .ok (.aload_n 0, 1) := by decide +kernel
theorem dX5_roomFor_9 : decode cX5_roomFor 9 = .ok (.getfield 23, 3) := by decide +kernel
theorem dX5_roomFor_12 : decode cX5_roomFor 12 = .ok (.if_icmp .ge 26, 3) := by decide +kernel
theorem dX5_roomFor_15 : decode cX5_roomFor 15 = .ok (.aload_n 0, 1) := by decide +kernel
theorem dX5_roomFor_16 : decode cX5_roomFor 16 = .ok (.iload_n 3, 1) := by decide +kernel
theorem dX5_roomFor_17 : decode cX5_roomFor 17 = .ok (.invokevirtual 83, 3) := by decide +kernel
theorem dX5_roomFor_20 : decode cX5_roomFor 20 = .ok (.aload_n 0, 1) := by decide +kernel
theorem dX5_roomFor_21 : decode cX5_roomFor 21 = .ok (.iload_n 3, 1) := by decide +kernel
theorem dX5_roomFor_22 : decode cX5_roomFor 22 = .ok (.invokevirtual 86, 3) := by decide +kernel
theorem dX5_roomFor_25 : decode cX5_roomFor 25 = .ok (.isub, 1) := by decide +kernel
theorem dX5_roomFor_26 : decode cX5_roomFor 26 = .ok (.iload_n 2, 1) := by decide +kernel
theorem dX5_roomFor_27 : decode cX5_roomFor 27 = .ok (.if_icmp .lt 5, 3) := by decide +kernel
theorem dX5_roomFor_30 : decode cX5_roomFor 30 = .ok (.iload_n 3, 1) := by decide +kernel
theorem dX5_roomFor_31 : decode cX5_roomFor 31 = .ok (.ireturn, 1) := by decide +kernel
theorem dX5_roomFor_32 : decode cX5_roomFor 32 = .ok (.iinc 3 1, 3) := by decide +kernel
theorem dX5_roomFor_35 : decode cX5_roomFor 35 = .ok (.goto (-28), 3) := by decide +kernel
theorem dX5_roomFor_38 : decode cX5_roomFor 38 = .ok (.iconst (-1), 1) := by decide +kernel
theorem dX5_roomFor_39 : decode cX5_roomFor 39 = .ok (.ireturn, 1) := by decide +kernel
theorem dX4_costOf_0 : decode cX4_costOf 0 = .ok (.aload_n 0, 1) := by decide +kernel
theorem dX4_costOf_1 : decode cX4_costOf 1 = .ok (.iload_n 1, 1) := by decide +kernel
theorem dX4_costOf_2 : decode cX4_costOf 2 = .ok (.invokevirtual 65, 3) := by decide +kernel
theorem dX4_costOf_5 : decode cX4_costOf 5 = .ok (.istore_n 3, 1) := by decide +kernel
theorem dX4_costOf_6 : decode cX4_costOf 6 = .ok (.iload_n 3, 1) := by decide +kernel
theorem dX4_costOf_7 : decode cX4_costOf 7 = .ok (.iload_n 2, 1) := by decide +kernel
theorem dX4_costOf_8 : decode cX4_costOf 8 = .ok (.iadd, 1) := by decide +kernel
theorem dX4_costOf_9 : decode cX4_costOf 9 = .ok (.invokestatic 68, 3) := by decide +kernel
theorem dX4_costOf_12 : decode cX4_costOf 12 = .ok (.invokestatic 71, 3) := by decide +kernel
theorem dX4_costOf_15 : decode cX4_costOf 15 = .ok (.iload_n 3, 1) := by decide +kernel
theorem dX4_costOf_16 : decode cX4_costOf 16 = .ok (.invokestatic 68, 3) := by decide +kernel
theorem dX4_costOf_19 : decode cX4_costOf 19 = .ok (.invokestatic 71, 3) := by decide +kernel
theorem dX4_costOf_22 : decode cX4_costOf 22 = .ok (.isub, 1) := by decide +kernel
theorem dX4_costOf_23 : decode cX4_costOf 23 = .ok (.ireturn, 1) := by decide +kernel
theorem dX5_open_0 : decode cX5_open 0 = .ok (.aload_n 0, 1) := by decide +kernel
theorem dX5_open_1 : decode cX5_open 1 = .ok (.getfield 15, 3) := by decide +kernel
theorem dX5_open_4 : decode cX5_open 4 = .ok (.iload_n 1, 1) := by decide +kernel
theorem dX5_open_5 : decode cX5_open 5 = .ok (.sipush 1024, 3) := by decide +kernel
theorem dX5_open_8 : decode cX5_open 8 = .ok (.imul, 1) := by decide +kernel
theorem dX5_open_9 : decode cX5_open 9 = .ok (.iconst 4, 1) := by decide +kernel
theorem dX5_open_10 : decode cX5_open 10 = .ok (.iadd, 1) := by decide +kernel
theorem dX5_open_11 : decode cX5_open 11 = .ok (.sipush 1024, 3) := by decide +kernel
theorem dX5_open_14 : decode cX5_open 14 = .ok (.invokevirtual 89, 3) := by decide +kernel
theorem dX5_open_17 : decode cX5_open 17 = .ok (.iload_n 1, 1) := by decide +kernel
theorem dX5_open_18 : decode cX5_open 18 = .ok (.sipush 1024, 3) := by decide +kernel
theorem dX5_open_21 : decode cX5_open 21 = .ok (.imul, 1) := by decide +kernel
theorem dX5_open_22 : decode cX5_open 22 = .ok (.ireturn, 1) := by decide +kernel
theorem dX5_split_0 : decode cX5_split 0 = .ok (.aload_n 0, 1) := by decide +kernel
theorem dX5_split_1 : decode cX5_split 1 = .ok (.iload_n 1, 1) := by decide +kernel
theorem dX5_split_2 : decode cX5_split 2 = .ok (.invokevirtual 53, 3) := by decide +kernel
theorem dX5_split_5 : decode cX5_split 5 = .ok (.istore_n 2, 1) := by decide +kernel
theorem dX5_split_6 : decode cX5_split 6 = .ok (.aload_n 0, 1) := by decide +kernel
theorem dX5_split_7 : decode cX5_split 7 = .ok (.iload_n 1, 1) := by decide +kernel
theorem dX5_split_8 : decode cX5_split 8 = .ok (.invokevirtual 86, 3) := by decide +kernel
theorem dX5_split_11 : decode cX5_split 11 = .ok (.istore_n 3, 1) := by decide +kernel
theorem dX5_split_12 : decode cX5_split 12 = .ok (.aload_n 0, 1) := by decide +kernel
theorem dX5_split_13 : decode cX5_split 13 = .ok (.iload_n 1, 1) := by decide +kernel
theorem dX5_split_14 : decode cX5_split 14 = .ok (.invokevirtual 83, 3) := by decide +kernel
theorem dX5_split_17 : decode cX5_split 17 = .ok (.istore 4, 2) := by decide +kernel
theorem dX5_split_19 : decode cX5_split 19 = .ok (.aload_n 0, 1) := by decide +kernel
theorem dX5_split_20 : decode cX5_split 20 = .ok (.getfield 15, 3) := by decide +kernel
theorem dX5_split_23 : decode cX5_split 23 = .ok (.iload_n 2, 1) := by decide +kernel
theorem dX5_split_24 : decode cX5_split 24 = .ok (.iconst 4, 1) := by decide +kernel
theorem dX5_split_25 : decode cX5_split 25 = .ok (.iadd, 1) := by decide +kernel
theorem dX5_split_26 : decode cX5_split 26 = .ok (.iload_n 3, 1) := by decide +kernel
theorem dX5_split_27 : decode cX5_split 27 = .ok (.invokevirtual 89, 3) := by decide +kernel
theorem dX5_split_30 : decode cX5_split 30 = .ok (.aload_n 0, 1) := by decide +kernel
theorem dX5_split_31 : decode cX5_split 31 = .ok (.getfield 15, 3) := by decide +kernel
theorem dX5_split_34 : decode cX5_split 34 = .ok (.iload_n 2, 1) := by decide +kernel
theorem dX5_split_35 : decode cX5_split 35 = .ok (.iload_n 3, 1) := by decide +kernel
theorem dX5_split_36 : decode cX5_split 36 = .ok (.iadd, 1) := by decide +kernel
theorem dX5_split_37 : decode cX5_split 37 = .ok (.iconst 4, 1) := by decide +kernel
theorem dX5_split_38 : decode cX5_split 38 = .ok (.iadd, 1) := by decide +kernel
theorem dX5_split_39 : decode cX5_split 39 = .ok (.iload 4, 2) := by decide +kernel
theorem dX5_split_41 : decode cX5_split 41 = .ok (.iload_n 3, 1) := by decide +kernel
theorem dX5_split_42 : decode cX5_split 42 = .ok (.isub, 1) := by decide +kernel
theorem dX5_split_43 : decode cX5_split 43 = .ok (.invokevirtual 89, 3) := by decide +kernel
theorem dX5_split_46 : decode cX5_split 46 = .ok (.iload_n 2, 1) := by decide +kernel
theorem dX5_split_47 : decode cX5_split 47 = .ok (.iload_n 3, 1) := by decide +kernel
theorem dX5_split_48 : decode cX5_split 48 = .ok (.iadd, 1) := by decide +kernel
theorem dX5_split_49 : decode cX5_split 49 = .ok (.ireturn, 1) := by decide +kernel
theorem dX5_fillEntry_0 : decode cX5_fillEntry 0 = .ok (.aload_n 0, 1) := by decide +kernel
theorem dX5_fillEntry_1 : decode cX5_fillEntry 1 = .ok (.getfield 15, 3) := by decide +kernel
theorem dX5_fillEntry_4 : decode cX5_fillEntry 4 = .ok (.iload_n 1, 1) := by decide +kernel
theorem dX5_fillEntry_5 : decode cX5_fillEntry 5 = .ok (.iconst 4, 1) := by decide +kernel
theorem dX5_fillEntry_6 : decode cX5_fillEntry 6 = .ok (.iadd, 1) := by decide +kernel
theorem dX5_fillEntry_7 : decode cX5_fillEntry 7 = .ok (.invokevirtual 45, 3) := by decide +kernel
theorem dX5_fillEntry_10 : decode cX5_fillEntry 10 = .ok (.istore 6, 2) := by decide +kernel
theorem dX5_fillEntry_12 : decode cX5_fillEntry 12 = .ok (.aload_n 0, 1) := by decide +kernel
theorem dX5_fillEntry_13 : decode cX5_fillEntry 13 = .ok (.getfield 15, 3) := by decide +kernel
theorem dX5_fillEntry_16 : decode cX5_fillEntry 16 = .ok (.iload_n 1, 1) := by decide +kernel
theorem dX5_fillEntry_17 : decode cX5_fillEntry 17 = .ok (.iload_n 1, 1) := by decide +kernel
theorem dX5_fillEntry_18 : decode cX5_fillEntry 18 = .ok (.iload 5, 2) := by decide +kernel
theorem dX5_fillEntry_20 : decode cX5_fillEntry 20 = .ok (.invokestatic 62, 3) := by decide +kernel
theorem dX5_fillEntry_23 : decode cX5_fillEntry 23 = .ok (.iadd, 1) := by decide +kernel
theorem dX5_fillEntry_24 : decode cX5_fillEntry 24 = .ok (.iconst 0, 1) := by decide +kernel
theorem dX5_fillEntry_25 : decode cX5_fillEntry 25 = .ok (.invokevirtual 99, 3) := by decide +kernel
theorem dX5_fillEntry_28 : decode cX5_fillEntry 28 = .ok (.aload_n 0, 1) := by decide +kernel
theorem dX5_fillEntry_29 : decode cX5_fillEntry 29 = .ok (.getfield 15, 3) := by decide +kernel
theorem dX5_fillEntry_32 : decode cX5_fillEntry 32 = .ok (.iload_n 1, 1) := by decide +kernel
theorem dX5_fillEntry_33 : decode cX5_fillEntry 33 = .ok (.iload_n 2, 1) := by decide +kernel
theorem dX5_fillEntry_34 : decode cX5_fillEntry 34 = .ok (.invokevirtual 93, 3) := by decide +kernel
theorem dX5_fillEntry_37 : decode cX5_fillEntry 37 = .ok (.aload_n 0, 1) := by decide +kernel
theorem dX5_fillEntry_38 : decode cX5_fillEntry 38 = .ok (.getfield 15, 3) := by decide +kernel
theorem dX5_fillEntry_41 : decode cX5_fillEntry 41 = .ok (.iload_n 1, 1) := by decide +kernel
theorem dX5_fillEntry_42 : decode cX5_fillEntry 42 = .ok (.iconst 4, 1) := by decide +kernel
theorem dX5_fillEntry_43 : decode cX5_fillEntry 43 = .ok (.iadd, 1) := by decide +kernel
theorem dX5_fillEntry_44 : decode cX5_fillEntry 44 = .ok (.iload 6, 2) := by decide +kernel
theorem dX5_fillEntry_46 : decode cX5_fillEntry 46 = .ok (.invokevirtual 89, 3) := by decide +kernel
theorem dX5_fillEntry_49 : decode cX5_fillEntry 49 = .ok (.aload_n 0, 1) := by decide +kernel
theorem dX5_fillEntry_50 : decode cX5_fillEntry 50 = .ok (.getfield 15, 3) := by decide +kernel
theorem dX5_fillEntry_53 : decode cX5_fillEntry 53 = .ok (.iload_n 1, 1) := by decide +kernel
theorem dX5_fillEntry_54 : decode cX5_fillEntry 54 = .ok (.bipush 6, 2) := by decide +kernel
theorem dX5_fillEntry_56 : decode cX5_fillEntry 56 = .ok (.iadd, 1) := by decide +kernel
theorem dX5_fillEntry_57 : decode cX5_fillEntry 57 = .ok (.iload 5, 2) := by decide +kernel
theorem dX5_fillEntry_59 : decode cX5_fillEntry 59 = .ok (.invokevirtual 96, 3) := by decide +kernel
theorem dX5_fillEntry_62 : decode cX5_fillEntry 62 = .ok (.aload_n 0, 1) := by decide +kernel
theorem dX5_fillEntry_63 : decode cX5_fillEntry 63 = .ok (.getfield 15, 3) := by decide +kernel
theorem dX5_fillEntry_66 : decode cX5_fillEntry 66 = .ok (.iload_n 1, 1) := by decide +kernel
theorem dX5_fillEntry_67 : decode cX5_fillEntry 67 = .ok (.bipush 7, 2) := by decide +kernel
theorem dX5_fillEntry_69 : decode cX5_fillEntry 69 = .ok (.iadd, 1) := by decide +kernel
theorem dX5_fillEntry_70 : decode cX5_fillEntry 70 = .ok (.iload_n 3, 1) := by decide +kernel
theorem dX5_fillEntry_71 : decode cX5_fillEntry 71 = .ok (.ifCond .eq 7, 3) := by decide +kernel
theorem dX5_fillEntry_74 : decode cX5_fillEntry 74 = .ok (.iconst 2, 1) := by decide +kernel
theorem dX5_fillEntry_75 : decode cX5_fillEntry 75 = .ok (.goto 4, 3) := by decide +kernel
theorem dX5_fillEntry_78 : decode cX5_fillEntry 78 = .ok (.iconst 1, 1) := by decide +kernel
theorem dX5_fillEntry_79 : decode cX5_fillEntry 79 = .ok (.invokevirtual 96, 3) := by decide +kernel
theorem dX5_fillEntry_82 : decode cX5_fillEntry 82 = .ok (.iconst 0, 1) := by decide +kernel
theorem dX5_fillEntry_83 : decode cX5_fillEntry 83 = .ok (.istore 7, 2) := by decide +kernel
theorem dX5_fillEntry_85 : decode cX5_fillEntry 85 = .ok (.iload 7, 2) := by decide +kernel
theorem dX5_fillEntry_87 : decode cX5_fillEntry 87 = .ok (.iload 5, 2) := by decide +kernel
theorem dX5_fillEntry_89 : decode cX5_fillEntry 89 = .ok (.if_icmp .ge 30, 3) := by decide +kernel
theorem dX5_fillEntry_92 : decode cX5_fillEntry 92 = .ok (.aload_n 0, 1) := by decide +kernel
theorem dX5_fillEntry_93 : decode cX5_fillEntry 93 = .ok (.getfield 15, 3) := by decide +kernel
theorem dX5_fillEntry_96 : decode cX5_fillEntry 96 = .ok (.iload_n 1, 1) := by decide +kernel
theorem dX5_fillEntry_97 : decode cX5_fillEntry 97 = .ok (.bipush 8, 2) := by decide +kernel
theorem dX5_fillEntry_99 : decode cX5_fillEntry 99 = .ok (.iadd, 1) := by decide +kernel
theorem dX5_fillEntry_100 : decode cX5_fillEntry 100 = .ok (.iload 7, 2) := by decide +kernel
theorem dX5_fillEntry_102 : decode cX5_fillEntry 102 = .ok (.iadd, 1) := by decide +kernel
theorem dX5_fillEntry_103 : decode cX5_fillEntry 103 = .ok (.aload 4, 2) := by decide +kernel
theorem dX5_fillEntry_105 : decode cX5_fillEntry 105 = .ok (.iload 7, 2) := by decide +kernel
theorem dX5_fillEntry_107 : decode cX5_fillEntry 107 = .ok (.invokevirtual 78, 3) := by decide +kernel
theorem dX5_fillEntry_110 : decode cX5_fillEntry 110 = .ok (.invokevirtual 96, 3) := by decide +kernel
theorem dX5_fillEntry_113 : decode cX5_fillEntry 113 = .ok (.iinc 7 1, 3) := by decide +kernel
theorem dX5_fillEntry_116 : decode cX5_fillEntry 116 = .ok (.goto (-31), 3) := by decide +kernel
theorem dX5_fillEntry_119 : decode cX5_fillEntry 119 = .ok (.return_, 1) := by decide +kernel
theorem dX4_addLinks_0 : decode cX4_addLinks 0 = .ok (.aload_n 0, 1) := by decide +kernel
theorem dX4_addLinks_1 : decode cX4_addLinks 1 = .ok (.getfield 15, 3) := by decide +kernel
theorem dX4_addLinks_4 : decode cX4_addLinks 4 = .ok (.iload_n 1, 1) := by decide +kernel
theorem dX4_addLinks_5 : decode cX4_addLinks 5 = .ok (.invokevirtual 23, 3) := by decide +kernel
theorem dX4_addLinks_8 : decode cX4_addLinks 8 = .ok (.bipush 26, 2) := by decide +kernel
theorem dX4_addLinks_10 : decode cX4_addLinks 10 = .ok (.iadd, 1) := by decide +kernel
theorem dX4_addLinks_11 : decode cX4_addLinks 11 = .ok (.istore_n 3, 1) := by decide +kernel
theorem dX4_addLinks_12 : decode cX4_addLinks 12 = .ok (.aload_n 0, 1) := by decide +kernel
theorem dX4_addLinks_13 : decode cX4_addLinks 13 = .ok (.getfield 9, 3) := by decide +kernel
theorem dX4_addLinks_16 : decode cX4_addLinks 16 = .ok (.iload_n 3, 1) := by decide +kernel
theorem dX4_addLinks_17 : decode cX4_addLinks 17 = .ok (.aload_n 0, 1) := by decide +kernel
theorem dX4_addLinks_18 : decode cX4_addLinks 18 = .ok (.getfield 9, 3) := by decide +kernel
theorem dX4_addLinks_21 : decode cX4_addLinks 21 = .ok (.iload_n 3, 1) := by decide +kernel
theorem dX4_addLinks_22 : decode cX4_addLinks 22 = .ok (.invokevirtual 29, 3) := by decide +kernel
theorem dX4_addLinks_25 : decode cX4_addLinks 25 = .ok (.iload_n 2, 1) := by decide +kernel
theorem dX4_addLinks_26 : decode cX4_addLinks 26 = .ok (.iadd, 1) := by decide +kernel
theorem dX4_addLinks_27 : decode cX4_addLinks 27 = .ok (.invokevirtual 41, 3) := by decide +kernel
theorem dX4_addLinks_30 : decode cX4_addLinks 30 = .ok (.return_, 1) := by decide +kernel
theorem dX5_numberOf_0 : decode cX5_numberOf 0 = .ok (.iconst 0, 1) := by decide +kernel
theorem dX5_numberOf_1 : decode cX5_numberOf 1 = .ok (.istore_n 2, 1) := by decide +kernel
theorem dX5_numberOf_2 : decode cX5_numberOf 2 = .ok (.iconst 2, 1) := by decide +kernel
theorem dX5_numberOf_3 : decode cX5_numberOf 3 = .ok (.istore_n 3, 1) := by decide +kernel
theorem dX5_numberOf_4 : decode cX5_numberOf 4 = .ok (.iload_n 3, 1) := by decide +kernel
theorem dX5_numberOf_5 : decode cX5_numberOf 5 = .ok (.aload_n 0, 1) := by decide +kernel
theorem dX5_numberOf_6 : decode cX5_numberOf 6 = .ok (.getfield 23, 3) := by decide +kernel
theorem dX5_numberOf_9 : decode cX5_numberOf 9 = .ok (.if_icmp .ge 31, 3) := by decide +kernel
theorem dX5_numberOf_12 : decode cX5_numberOf 12 = .ok (.aload_n 0, 1) := by decide +kernel
theorem dX5_numberOf_13 : decode cX5_numberOf 13 = .ok (.iload_n 3, 1) := by decide +kernel
theorem dX5_numberOf_14 : decode cX5_numberOf 14 = .ok (.invokevirtual 53, 3) := by decide +kernel
theorem dX5_numberOf_17 : decode cX5_numberOf 17 = .ok (.iload_n 1, 1) := by decide +kernel
theorem dX5_numberOf_18 : decode cX5_numberOf 18 = .ok (.if_icmp .ne 5, 3) := by decide +kernel
theorem dX5_numberOf_21 : decode cX5_numberOf 21 = .ok (.iload_n 2, 1) := by decide +kernel
theorem dX5_numberOf_22 : decode cX5_numberOf 22 = .ok (.ireturn, 1) := by decide +kernel
theorem dX5_numberOf_23 : decode cX5_numberOf 23 = .ok (.aload_n 0, 1) := by decide +kernel
theorem dX5_numberOf_24 : decode cX5_numberOf 24 = .ok (.iload_n 3, 1) := by decide +kernel
theorem dX5_numberOf_25 : decode cX5_numberOf 25 = .ok (.invokevirtual 65, 3) := by decide +kernel
theorem dX5_numberOf_28 : decode cX5_numberOf 28 = .ok (.ifCond .eq 6, 3) := by decide +kernel
theorem dX5_numberOf_31 : decode cX5_numberOf 31 = .ok (.iinc 2 1, 3) := by decide +kernel
theorem dX5_numberOf_34 : decode cX5_numberOf 34 = .ok (.iinc 3 1, 3) := by decide +kernel
theorem dX5_numberOf_37 : decode cX5_numberOf 37 = .ok (.goto (-33), 3) := by decide +kernel
theorem dX5_numberOf_40 : decode cX5_numberOf 40 = .ok (.iconst (-1), 1) := by decide +kernel
theorem dX5_numberOf_41 : decode cX5_numberOf 41 = .ok (.ireturn, 1) := by decide +kernel
theorem dX10_write_0 : decode cX10_write 0 = .ok (.aload_n 2, 1) := by decide +kernel
theorem dX10_write_1 : decode cX10_write 1 = .ok (.iconst 0, 1) := by decide +kernel
theorem dX10_write_2 : decode cX10_write 2 = .ok (.aload_n 0, 1) := by decide +kernel
theorem dX10_write_3 : decode cX10_write 3 = .ok (.iload_n 1, 1) := by decide +kernel
theorem dX10_write_4 : decode cX10_write 4 = .ok (.invokevirtual 48, 3) := by decide +kernel
theorem dX10_write_7 : decode cX10_write 7 = .ok (.i2l, 1) := by decide +kernel
theorem dX10_write_8 : decode cX10_write 8 = .ok (.lastore, 1) := by decide +kernel
theorem dX10_write_9 : decode cX10_write 9 = .ok (.goto 15, 3) := by decide +kernel
theorem dX10_write_12 : decode cX10_write 12 = .ok (.astore_n 3, 1) := by decide +kernel
theorem dX10_write_13 : decode cX10_write 13 = .ok (.iconst 1, 1) := by decide +kernel
theorem dX10_write_14 : decode cX10_write 14 = .ok (.ireturn, 1) := by decide +kernel
theorem dX10_write_15 : decode cX10_write 15 = .ok (.astore_n 3, 1) := by decide +kernel
theorem dX10_write_16 : decode cX10_write 16 = .ok (.iconst 2, 1) := by decide +kernel
theorem dX10_write_17 : decode cX10_write 17 = .ok (.ireturn, 1) := by decide +kernel
theorem dX10_write_18 : decode cX10_write 18 = .ok (.astore_n 3, 1) := by decide +kernel
theorem dX10_write_19 : decode cX10_write 19 = .ok (.iconst 3, 1) := by decide +kernel
theorem dX10_write_20 : decode cX10_write 20 = .ok (.ireturn, 1) := by decide +kernel
theorem dX10_write_21 : decode cX10_write 21 = .ok (.astore_n 3, 1) := by decide +kernel
theorem dX10_write_22 : decode cX10_write 22 = .ok (.iconst 4, 1) := by decide +kernel
theorem dX10_write_23 : decode cX10_write 23 = .ok (.ireturn, 1) := by decide +kernel
theorem dX10_write_24 : decode cX10_write 24 = .ok (.iconst 0, 1) := by decide +kernel
theorem dX10_write_25 : decode cX10_write 25 = .ok (.ireturn, 1) := by decide +kernel
theorem dX0_write_0 : decode cX0_write 0 = .ok (.aload_n 0, 1) := by decide +kernel
theorem dX0_write_1 : decode cX0_write 1 = .ok (.getfield 85, 3) := by decide +kernel
theorem dX0_write_4 : decode cX0_write 4 = .ok (.invokevirtual 206, 3) := by decide +kernel
theorem dX0_write_7 : decode cX0_write 7 = .ok (.istore_n 2, 1) := by decide +kernel
theorem dX0_write_8 : decode cX0_write 8 = .ok (.aload_n 0, 1) := by decide +kernel
theorem dX0_write_9 : decode cX0_write 9 = .ok (.aload_n 0, 1) := by decide +kernel
theorem dX0_write_10 : decode cX0_write 10 = .ok (.iload_n 1, 1) := by decide +kernel
theorem dX0_write_11 : decode cX0_write 11 = .ok (.invokevirtual 174, 3) := by decide +kernel
theorem dX0_write_14 : decode cX0_write 14 = .ok (.invokevirtual 245, 3) := by decide +kernel
theorem dX0_write_17 : decode cX0_write 17 = .ok (.istore_n 3, 1) := by decide +kernel
theorem dX0_write_18 : decode cX0_write 18 = .ok (.aload_n 0, 1) := by decide +kernel
theorem dX0_write_19 : decode cX0_write 19 = .ok (.aload_n 0, 1) := by decide +kernel
theorem dX0_write_20 : decode cX0_write 20 = .ok (.getfield 51, 3) := by decide +kernel
theorem dX0_write_23 : decode cX0_write 23 = .ok (.iload_n 3, 1) := by decide +kernel
theorem dX0_write_24 : decode cX0_write 24 = .ok (.iload_n 2, 1) := by decide +kernel
theorem dX0_write_25 : decode cX0_write 25 = .ok (.invokevirtual 221, 3) := by decide +kernel
theorem dX0_write_28 : decode cX0_write 28 = .ok (.invokevirtual 248, 3) := by decide +kernel
theorem dX0_write_31 : decode cX0_write 31 = .ok (.aload_n 0, 1) := by decide +kernel
theorem dX0_write_32 : decode cX0_write 32 = .ok (.getfield 51, 3) := by decide +kernel
theorem dX0_write_35 : decode cX0_write 35 = .ok (.iload_n 3, 1) := by decide +kernel
theorem dX0_write_36 : decode cX0_write 36 = .ok (.aload_n 0, 1) := by decide +kernel
theorem dX0_write_37 : decode cX0_write 37 = .ok (.getfield 85, 3) := by decide +kernel
theorem dX0_write_40 : decode cX0_write 40 = .ok (.iload_n 2, 1) := by decide +kernel
theorem dX0_write_41 : decode cX0_write 41 = .ok (.invokevirtual 251, 3) := by decide +kernel
theorem dX0_write_44 : decode cX0_write 44 = .ok (.ireturn, 1) := by decide +kernel
theorem dX0_fileAt_0 : decode cX0_fileAt 0 = .ok (.aload_n 0, 1) := by decide +kernel
theorem dX0_fileAt_1 : decode cX0_fileAt 1 = .ok (.getfield 60, 3) := by decide +kernel
theorem dX0_fileAt_4 : decode cX0_fileAt 4 = .ok (.iload_n 1, 1) := by decide +kernel
theorem dX0_fileAt_5 : decode cX0_fileAt 5 = .ok (.invokevirtual 180, 3) := by decide +kernel
theorem dX0_fileAt_8 : decode cX0_fileAt 8 = .ok (.istore_n 2, 1) := by decide +kernel
theorem dX0_fileAt_9 : decode cX0_fileAt 9 = .ok (.aload_n 0, 1) := by decide +kernel
theorem dX0_fileAt_10 : decode cX0_fileAt 10 = .ok (.getfield 51, 3) := by decide +kernel
theorem dX0_fileAt_13 : decode cX0_fileAt 13 = .ok (.iload_n 2, 1) := by decide +kernel
theorem dX0_fileAt_14 : decode cX0_fileAt 14 = .ok (.invokevirtual 183, 3) := by decide +kernel
theorem dX0_fileAt_17 : decode cX0_fileAt 17 = .ok (.ifCond .eq 14, 3) := by decide +kernel
theorem dX0_fileAt_20 : decode cX0_fileAt 20 = .ok (.new 105, 3) := by decide +kernel
theorem dX0_fileAt_23 : decode cX0_fileAt 23 = .ok (.dup, 1) := by decide +kernel
theorem dX0_fileAt_24 : decode cX0_fileAt 24 = .ok (.ldc_w 296, 3) := by decide +kernel
theorem dX0_fileAt_27 : decode cX0_fileAt 27 = .ok (.invokespecial 109, 3) := by decide +kernel
theorem dX0_fileAt_30 : decode cX0_fileAt 30 = .ok (.athrow, 1) := by decide +kernel
theorem dX0_fileAt_31 : decode cX0_fileAt 31 = .ok (.iload_n 2, 1) := by decide +kernel
theorem dX0_fileAt_32 : decode cX0_fileAt 32 = .ok (.ireturn, 1) := by decide +kernel
theorem dX0_needBlocks_0 : decode cX0_needBlocks 0 = .ok (.aload_n 0, 1) := by decide +kernel
theorem dX0_needBlocks_1 : decode cX0_needBlocks 1 = .ok (.getfield 39, 3) := by decide +kernel
theorem dX0_needBlocks_4 : decode cX0_needBlocks 4 = .ok (.invokevirtual 146, 3) := by decide +kernel
theorem dX0_needBlocks_7 : decode cX0_needBlocks 7 = .ok (.iload_n 1, 1) := by decide +kernel
theorem dX0_needBlocks_8 : decode cX0_needBlocks 8 = .ok (.if_icmp .ge 14, 3) := by decide +kernel
theorem dX0_needBlocks_11 : decode cX0_needBlocks 11 = .ok (.new 224, 3) := by decide +kernel
theorem dX0_needBlocks_14 : decode cX0_needBlocks 14 = .ok (.dup, 1) := by decide +kernel
theorem dX0_needBlocks_15 : decode cX0_needBlocks 15 = .ok (.ldc_w 298, 3) := by decide +kernel
theorem dX0_needBlocks_18 : decode cX0_needBlocks 18 = .ok (.invokespecial 228, 3) := by decide +kernel
theorem dX0_needBlocks_21 : decode cX0_needBlocks 21 = .ok (.athrow, 1) := by decide +kernel
theorem dX0_needBlocks_22 : decode cX0_needBlocks 22 = .ok (.return_, 1) := by decide +kernel
theorem dX4_append_0 : decode cX4_append 0 = .ok (.aload_n 0, 1) := by decide +kernel
theorem dX4_append_1 : decode cX4_append 1 = .ok (.iload_n 1, 1) := by decide +kernel
theorem dX4_append_2 : decode cX4_append 2 = .ok (.invokevirtual 65, 3) := by decide +kernel
theorem dX4_append_5 : decode cX4_append 5 = .ok (.istore 4, 2) := by decide +kernel
theorem dX4_append_7 : decode cX4_append 7 = .ok (.iload 4, 2) := by decide +kernel
theorem dX4_append_9 : decode cX4_append 9 = .ok (.iload_n 3, 1) := by decide +kernel
theorem dX4_append_10 : decode cX4_append 10 = .ok (.iadd, 1) := by decide +kernel
theorem dX4_append_11 : decode cX4_append 11 = .ok (.invokestatic 68, 3) := by decide +kernel
theorem dX4_append_14 : decode cX4_append 14 = .ok (.istore 5, 2) := by decide +kernel
theorem dX4_append_16 : decode cX4_append 16 = .ok (.iload 4, 2) := by decide +kernel
theorem dX4_append_18 : decode cX4_append 18 = .ok (.invokestatic 68, 3) := by decide +kernel
theorem dX4_append_21 : decode cX4_append 21 = .ok (.istore 6, 2) := by decide +kernel
theorem dX4_append_23 : decode cX4_append 23 = .ok (.iload 6, 2) := by decide +kernel
theorem dX4_append_25 : decode cX4_append 25 = .ok (.iload 5, 2) := by decide +kernel
theorem dX4_append_27 : decode cX4_append 27 = .ok (.if_icmp .ge 16, 3) := by decide +kernel
theorem dX4_append_30 : decode cX4_append 30 = .ok (.aload_n 0, 1) := by decide +kernel
theorem dX4_append_31 : decode cX4_append 31 = .ok (.iload_n 1, 1) := by decide +kernel
theorem dX4_append_32 : decode cX4_append 32 = .ok (.iload 6, 2) := by decide +kernel
theorem dX4_append_34 : decode cX4_append 34 = .ok (.invokevirtual 99, 3) := by decide +kernel
theorem dX4_append_37 : decode cX4_append 37 = .ok (.iinc 6 1, 3) := by decide +kernel
theorem dX4_append_40 : decode cX4_append 40 = .ok (.goto (-17), 3) := by decide +kernel
theorem dX4_append_43 : decode cX4_append 43 = .ok (.aload_n 0, 1) := by decide +kernel
theorem dX4_append_44 : decode cX4_append 44 = .ok (.iload_n 1, 1) := by decide +kernel
theorem dX4_append_45 : decode cX4_append 45 = .ok (.iload 4, 2) := by decide +kernel
theorem dX4_append_47 : decode cX4_append 47 = .ok (.iload_n 3, 1) := by decide +kernel
theorem dX4_append_48 : decode cX4_append 48 = .ok (.iadd, 1) := by decide +kernel
theorem dX4_append_49 : decode cX4_append 49 = .ok (.invokevirtual 102, 3) := by decide +kernel
theorem dX4_append_52 : decode cX4_append 52 = .ok (.aload_n 0, 1) := by decide +kernel
theorem dX4_append_53 : decode cX4_append 53 = .ok (.iload_n 1, 1) := by decide +kernel
theorem dX4_append_54 : decode cX4_append 54 = .ok (.iload 4, 2) := by decide +kernel
theorem dX4_append_56 : decode cX4_append 56 = .ok (.sipush 1024, 3) := by decide +kernel
theorem dX4_append_59 : decode cX4_append 59 = .ok (.idiv, 1) := by decide +kernel
theorem dX4_append_60 : decode cX4_append 60 = .ok (.invokevirtual 105, 3) := by decide +kernel
theorem dX4_append_63 : decode cX4_append 63 = .ok (.sipush 1024, 3) := by decide +kernel
theorem dX4_append_66 : decode cX4_append 66 = .ok (.imul, 1) := by decide +kernel
theorem dX4_append_67 : decode cX4_append 67 = .ok (.istore 6, 2) := by decide +kernel
theorem dX4_append_69 : decode cX4_append 69 = .ok (.iconst 0, 1) := by decide +kernel
theorem dX4_append_70 : decode cX4_append 70 = .ok (.istore 7, 2) := by decide +kernel
theorem dX4_append_72 : decode cX4_append 72 = .ok (.iload 7, 2) := by decide +kernel
theorem dX4_append_74 : decode cX4_append 74 = .ok (.iload_n 3, 1) := by decide +kernel
theorem dX4_append_75 : decode cX4_append 75 = .ok (.if_icmp .ge 63, 3) := by decide +kernel
theorem dX4_append_78 : decode cX4_append 78 = .ok (.iload 4, 2) := by decide +kernel
theorem dX4_append_80 : decode cX4_append 80 = .ok (.iload 7, 2) := by decide +kernel
theorem dX4_append_82 : decode cX4_append 82 = .ok (.iadd, 1) := by decide +kernel
theorem dX4_append_83 : decode cX4_append 83 = .ok (.sipush 1024, 3) := by decide +kernel
theorem dX4_append_86 : decode cX4_append 86 = .ok (.irem, 1) := by decide +kernel
theorem dX4_append_87 : decode cX4_append 87 = .ok (.istore 8, 2) := by decide +kernel
theorem dX4_append_89 : decode cX4_append 89 = .ok (.iload 8, 2) := by decide +kernel
theorem dX4_append_91 : decode cX4_append 91 = .ok (.ifCond .ne 23, 3) := by decide +kernel
theorem dX4_append_94 : decode cX4_append 94 = .ok (.aload_n 0, 1) := by decide +kernel
theorem dX4_append_95 : decode cX4_append 95 = .ok (.iload_n 1, 1) := by decide +kernel
theorem dX4_append_96 : decode cX4_append 96 = .ok (.iload 4, 2) := by decide +kernel
theorem dX4_append_98 : decode cX4_append 98 = .ok (.iload 7, 2) := by decide +kernel
theorem dX4_append_100 : decode cX4_append 100 = .ok (.iadd, 1) := by decide +kernel
theorem dX4_append_101 : decode cX4_append 101 = .ok (.sipush 1024, 3) := by decide +kernel
theorem dX4_append_104 : decode cX4_append 104 = .ok (.idiv, 1) := by decide +kernel
theorem dX4_append_105 : decode cX4_append 105 = .ok (.invokevirtual 105, 3) := by decide +kernel
theorem dX4_append_108 : decode cX4_append 108 = .ok (.sipush 1024, 3) := by decide +kernel
theorem dX4_append_111 : decode cX4_append 111 = .ok (.imul, 1) := by decide +kernel
theorem dX4_append_112 : decode cX4_append 112 = .ok (.istore 6, 2) := by decide +kernel
theorem dX4_append_114 : decode cX4_append 114 = .ok (.aload_n 0, 1) := by decide +kernel
theorem dX4_append_115 : decode cX4_append 115 = .ok (.getfield 9, 3) := by decide +kernel
theorem dX4_append_118 : decode cX4_append 118 = .ok (.iload 6, 2) := by decide +kernel
theorem dX4_append_120 : decode cX4_append 120 = .ok (.iload 8, 2) := by decide +kernel
theorem dX4_append_122 : decode cX4_append 122 = .ok (.iadd, 1) := by decide +kernel
theorem dX4_append_123 : decode cX4_append 123 = .ok (.aload_n 2, 1) := by decide +kernel
theorem dX4_append_124 : decode cX4_append 124 = .ok (.iload 7, 2) := by decide +kernel
theorem dX4_append_126 : decode cX4_append 126 = .ok (.invokevirtual 108, 3) := by decide +kernel
theorem dX4_append_129 : decode cX4_append 129 = .ok (.invokevirtual 113, 3) := by decide +kernel
theorem dX4_append_132 : decode cX4_append 132 = .ok (.iinc 7 1, 3) := by decide +kernel
theorem dX4_append_135 : decode cX4_append 135 = .ok (.goto (-63), 3) := by decide +kernel
theorem dX4_append_138 : decode cX4_append 138 = .ok (.iload 4, 2) := by decide +kernel
theorem dX4_append_140 : decode cX4_append 140 = .ok (.iload_n 3, 1) := by decide +kernel
theorem dX4_append_141 : decode cX4_append 141 = .ok (.iadd, 1) := by decide +kernel
theorem dX4_append_142 : decode cX4_append 142 = .ok (.ireturn, 1) := by decide +kernel
theorem dX10_grow_0 : decode cX10_grow 0 = .ok (.aload 4, 2) := by decide +kernel
theorem dX10_grow_2 : decode cX10_grow 2 = .ok (.iconst 0, 1) := by decide +kernel
theorem dX10_grow_3 : decode cX10_grow 3 = .ok (.aload_n 0, 1) := by decide +kernel
theorem dX10_grow_4 : decode cX10_grow 4 = .ok (.iload_n 1, 1) := by decide +kernel
theorem dX10_grow_5 : decode cX10_grow 5 = .ok (.iload_n 2, 1) := by decide +kernel
theorem dX10_grow_6 : decode cX10_grow 6 = .ok (.iload_n 3, 1) := by decide +kernel
theorem dX10_grow_7 : decode cX10_grow 7 = .ok (.invokevirtual 51, 3) := by decide +kernel
theorem dX10_grow_10 : decode cX10_grow 10 = .ok (.i2l, 1) := by decide +kernel
theorem dX10_grow_11 : decode cX10_grow 11 = .ok (.lastore, 1) := by decide +kernel
theorem dX10_grow_12 : decode cX10_grow 12 = .ok (.goto 19, 3) := by decide +kernel
theorem dX10_grow_15 : decode cX10_grow 15 = .ok (.astore 5, 2) := by decide +kernel
theorem dX10_grow_17 : decode cX10_grow 17 = .ok (.iconst 1, 1) := by decide +kernel
theorem dX10_grow_18 : decode cX10_grow 18 = .ok (.ireturn, 1) := by decide +kernel
theorem dX10_grow_19 : decode cX10_grow 19 = .ok (.astore 5, 2) := by decide +kernel
theorem dX10_grow_21 : decode cX10_grow 21 = .ok (.iconst 2, 1) := by decide +kernel
theorem dX10_grow_22 : decode cX10_grow 22 = .ok (.ireturn, 1) := by decide +kernel
theorem dX10_grow_23 : decode cX10_grow 23 = .ok (.astore 5, 2) := by decide +kernel
theorem dX10_grow_25 : decode cX10_grow 25 = .ok (.iconst 3, 1) := by decide +kernel
theorem dX10_grow_26 : decode cX10_grow 26 = .ok (.ireturn, 1) := by decide +kernel
theorem dX10_grow_27 : decode cX10_grow 27 = .ok (.astore 5, 2) := by decide +kernel
theorem dX10_grow_29 : decode cX10_grow 29 = .ok (.iconst 4, 1) := by decide +kernel
theorem dX10_grow_30 : decode cX10_grow 30 = .ok (.ireturn, 1) := by decide +kernel
theorem dX10_grow_31 : decode cX10_grow 31 = .ok (.iconst 0, 1) := by decide +kernel
theorem dX10_grow_32 : decode cX10_grow 32 = .ok (.ireturn, 1) := by decide +kernel
theorem dX0_grow_0 : decode cX0_grow 0 = .ok (.aload_n 0, 1) := by decide +kernel
theorem dX0_grow_1 : decode cX0_grow 1 = .ok (.aload_n 0, 1) := by decide +kernel
theorem dX0_grow_2 : decode cX0_grow 2 = .ok (.iload_n 1, 1) := by decide +kernel
theorem dX0_grow_3 : decode cX0_grow 3 = .ok (.invokevirtual 174, 3) := by decide +kernel
theorem dX0_grow_6 : decode cX0_grow 6 = .ok (.invokevirtual 245, 3) := by decide +kernel
theorem dX0_grow_9 : decode cX0_grow 9 = .ok (.istore 4, 2) := by decide +kernel
theorem dX0_grow_11 : decode cX0_grow 11 = .ok (.iload_n 2, 1) := by decide +kernel
theorem dX0_grow_12 : decode cX0_grow 12 = .ok (.ifCond .lt 9, 3) := by decide +kernel
theorem dX0_grow_15 : decode cX0_grow 15 = .ok (.iload_n 2, 1) := by decide +kernel
theorem dX0_grow_16 : decode cX0_grow 16 = .ok (.ldc 255, 2) := by decide +kernel
theorem dX0_grow_18 : decode cX0_grow 18 = .ok (.if_icmp .le 14, 3) := by decide +kernel
theorem dX0_grow_21 : decode cX0_grow 21 = .ok (.new 105, 3) := by decide +kernel
theorem dX0_grow_24 : decode cX0_grow 24 = .ok (.dup, 1) := by decide +kernel
theorem dX0_grow_25 : decode cX0_grow 25 = .ok (.ldc_w 256, 3) := by decide +kernel
theorem dX0_grow_28 : decode cX0_grow 28 = .ok (.invokespecial 109, 3) := by decide +kernel
theorem dX0_grow_31 : decode cX0_grow 31 = .ok (.athrow, 1) := by decide +kernel
theorem dX0_grow_32 : decode cX0_grow 32 = .ok (.aload_n 0, 1) := by decide +kernel
theorem dX0_grow_33 : decode cX0_grow 33 = .ok (.aload_n 0, 1) := by decide +kernel
theorem dX0_grow_34 : decode cX0_grow 34 = .ok (.getfield 51, 3) := by decide +kernel
theorem dX0_grow_37 : decode cX0_grow 37 = .ok (.iload 4, 2) := by decide +kernel
theorem dX0_grow_39 : decode cX0_grow 39 = .ok (.iload_n 2, 1) := by decide +kernel
theorem dX0_grow_40 : decode cX0_grow 40 = .ok (.invokevirtual 221, 3) := by decide +kernel
theorem dX0_grow_43 : decode cX0_grow 43 = .ok (.invokevirtual 248, 3) := by decide +kernel
theorem dX0_grow_46 : decode cX0_grow 46 = .ok (.aload_n 0, 1) := by decide +kernel
theorem dX0_grow_47 : decode cX0_grow 47 = .ok (.getfield 51, 3) := by decide +kernel
theorem dX0_grow_50 : decode cX0_grow 50 = .ok (.iload 4, 2) := by decide +kernel
theorem dX0_grow_52 : decode cX0_grow 52 = .ok (.new 258, 3) := by decide +kernel
theorem dX0_grow_55 : decode cX0_grow 55 = .ok (.dup, 1) := by decide +kernel
theorem dX0_grow_56 : decode cX0_grow 56 = .ok (.iload_n 3, 1) := by decide +kernel
theorem dX0_grow_57 : decode cX0_grow 57 = .ok (.invokespecial 260, 3) := by decide +kernel
theorem dX0_grow_60 : decode cX0_grow 60 = .ok (.iload_n 2, 1) := by decide +kernel
theorem dX0_grow_61 : decode cX0_grow 61 = .ok (.invokevirtual 251, 3) := by decide +kernel
theorem dX0_grow_64 : decode cX0_grow 64 = .ok (.ireturn, 1) := by decide +kernel
theorem dX11_init_0 : decode cX11_init 0 = .ok (.aload_n 0, 1) := by decide +kernel
theorem dX11_init_1 : decode cX11_init 1 = .ok (.invokespecial 1, 3) := by decide +kernel
theorem dX11_init_4 : decode cX11_init 4 = .ok (.aload_n 0, 1) := by decide +kernel
theorem dX11_init_5 : decode cX11_init 5 = .ok (.iload_n 1, 1) := by decide +kernel
theorem dX11_init_6 : decode cX11_init 6 = .ok (.putfield 7, 3) := by decide +kernel
theorem dX11_init_9 : decode cX11_init 9 = .ok (.return_, 1) := by decide +kernel
theorem dX10_cut_0 : decode cX10_cut 0 = .ok (.aload_n 3, 1) := by decide +kernel
theorem dX10_cut_1 : decode cX10_cut 1 = .ok (.iconst 0, 1) := by decide +kernel
theorem dX10_cut_2 : decode cX10_cut 2 = .ok (.aload_n 0, 1) := by decide +kernel
theorem dX10_cut_3 : decode cX10_cut 3 = .ok (.iload_n 1, 1) := by decide +kernel
theorem dX10_cut_4 : decode cX10_cut 4 = .ok (.iload_n 2, 1) := by decide +kernel
theorem dX10_cut_5 : decode cX10_cut 5 = .ok (.invokevirtual 54, 3) := by decide +kernel
theorem dX10_cut_8 : decode cX10_cut 8 = .ok (.i2l, 1) := by decide +kernel
theorem dX10_cut_9 : decode cX10_cut 9 = .ok (.lastore, 1) := by decide +kernel
theorem dX10_cut_10 : decode cX10_cut 10 = .ok (.goto 15, 3) := by decide +kernel
theorem dX10_cut_13 : decode cX10_cut 13 = .ok (.astore 4, 2) := by decide +kernel
theorem dX10_cut_15 : decode cX10_cut 15 = .ok (.iconst 1, 1) := by decide +kernel
theorem dX10_cut_16 : decode cX10_cut 16 = .ok (.ireturn, 1) := by decide +kernel
theorem dX10_cut_17 : decode cX10_cut 17 = .ok (.astore 4, 2) := by decide +kernel
theorem dX10_cut_19 : decode cX10_cut 19 = .ok (.iconst 2, 1) := by decide +kernel
theorem dX10_cut_20 : decode cX10_cut 20 = .ok (.ireturn, 1) := by decide +kernel
theorem dX10_cut_21 : decode cX10_cut 21 = .ok (.astore 4, 2) := by decide +kernel
theorem dX10_cut_23 : decode cX10_cut 23 = .ok (.iconst 3, 1) := by decide +kernel
theorem dX10_cut_24 : decode cX10_cut 24 = .ok (.ireturn, 1) := by decide +kernel
theorem dX10_cut_25 : decode cX10_cut 25 = .ok (.iconst 0, 1) := by decide +kernel
theorem dX10_cut_26 : decode cX10_cut 26 = .ok (.ireturn, 1) := by decide +kernel
theorem dX0_cut_0 : decode cX0_cut 0 = .ok (.aload_n 0, 1) := by decide +kernel
theorem dX0_cut_1 : decode cX0_cut 1 = .ok (.aload_n 0, 1) := by decide +kernel
theorem dX0_cut_2 : decode cX0_cut 2 = .ok (.iload_n 1, 1) := by decide +kernel
theorem dX0_cut_3 : decode cX0_cut 3 = .ok (.invokevirtual 174, 3) := by decide +kernel
theorem dX0_cut_6 : decode cX0_cut 6 = .ok (.invokevirtual 245, 3) := by decide +kernel
theorem dX0_cut_9 : decode cX0_cut 9 = .ok (.istore_n 3, 1) := by decide +kernel
theorem dX0_cut_10 : decode cX0_cut 10 = .ok (.iload_n 2, 1) := by decide +kernel
theorem dX0_cut_11 : decode cX0_cut 11 = .ok (.ifCond .lt 15, 3) := by decide +kernel
theorem dX0_cut_14 : decode cX0_cut 14 = .ok (.iload_n 2, 1) := by decide +kernel
theorem dX0_cut_15 : decode cX0_cut 15 = .ok (.aload_n 0, 1) := by decide +kernel
theorem dX0_cut_16 : decode cX0_cut 16 = .ok (.getfield 51, 3) := by decide +kernel
theorem dX0_cut_19 : decode cX0_cut 19 = .ok (.iload_n 3, 1) := by decide +kernel
theorem dX0_cut_20 : decode cX0_cut 20 = .ok (.invokevirtual 186, 3) := by decide +kernel
theorem dX0_cut_23 : decode cX0_cut 23 = .ok (.if_icmp .le 14, 3) := by decide +kernel
theorem dX0_cut_26 : decode cX0_cut 26 = .ok (.new 105, 3) := by decide +kernel
theorem dX0_cut_29 : decode cX0_cut 29 = .ok (.dup, 1) := by decide +kernel
theorem dX0_cut_30 : decode cX0_cut 30 = .ok (.ldc_w 261, 3) := by decide +kernel
theorem dX0_cut_33 : decode cX0_cut 33 = .ok (.invokespecial 109, 3) := by decide +kernel
theorem dX0_cut_36 : decode cX0_cut 36 = .ok (.athrow, 1) := by decide +kernel
theorem dX0_cut_37 : decode cX0_cut 37 = .ok (.aload_n 0, 1) := by decide +kernel
theorem dX0_cut_38 : decode cX0_cut 38 = .ok (.getfield 51, 3) := by decide +kernel
theorem dX0_cut_41 : decode cX0_cut 41 = .ok (.iload_n 3, 1) := by decide +kernel
theorem dX0_cut_42 : decode cX0_cut 42 = .ok (.iload_n 2, 1) := by decide +kernel
theorem dX0_cut_43 : decode cX0_cut 43 = .ok (.invokevirtual 263, 3) := by decide +kernel
theorem dX0_cut_46 : decode cX0_cut 46 = .ok (.ireturn, 1) := by decide +kernel
theorem dX4_shorten_0 : decode cX4_shorten 0 = .ok (.aload_n 0, 1) := by decide +kernel
theorem dX4_shorten_1 : decode cX4_shorten 1 = .ok (.getfield 19, 3) := by decide +kernel
theorem dX4_shorten_4 : decode cX4_shorten 4 = .ok (.invokevirtual 116, 3) := by decide +kernel
theorem dX4_shorten_7 : decode cX4_shorten 7 = .ok (.istore_n 3, 1) := by decide +kernel
theorem dX4_shorten_8 : decode cX4_shorten 8 = .ok (.iload_n 2, 1) := by decide +kernel
theorem dX4_shorten_9 : decode cX4_shorten 9 = .ok (.invokestatic 68, 3) := by decide +kernel
theorem dX4_shorten_12 : decode cX4_shorten 12 = .ok (.istore 4, 2) := by decide +kernel
theorem dX4_shorten_14 : decode cX4_shorten 14 = .ok (.aload_n 0, 1) := by decide +kernel
theorem dX4_shorten_15 : decode cX4_shorten 15 = .ok (.iload_n 1, 1) := by decide +kernel
theorem dX4_shorten_16 : decode cX4_shorten 16 = .ok (.invokevirtual 65, 3) := by decide +kernel
theorem dX4_shorten_19 : decode cX4_shorten 19 = .ok (.invokestatic 68, 3) := by decide +kernel
theorem dX4_shorten_22 : decode cX4_shorten 22 = .ok (.iconst 1, 1) := by decide +kernel
theorem dX4_shorten_23 : decode cX4_shorten 23 = .ok (.isub, 1) := by decide +kernel
theorem dX4_shorten_24 : decode cX4_shorten 24 = .ok (.istore 5, 2) := by decide +kernel
theorem dX4_shorten_26 : decode cX4_shorten 26 = .ok (.iload 5, 2) := by decide +kernel
theorem dX4_shorten_28 : decode cX4_shorten 28 = .ok (.iload 4, 2) := by decide +kernel
theorem dX4_shorten_30 : decode cX4_shorten 30 = .ok (.if_icmp .lt 16, 3) := by decide +kernel
theorem dX4_shorten_33 : decode cX4_shorten 33 = .ok (.aload_n 0, 1) := by decide +kernel
theorem dX4_shorten_34 : decode cX4_shorten 34 = .ok (.iload_n 1, 1) := by decide +kernel
theorem dX4_shorten_35 : decode cX4_shorten 35 = .ok (.iload 5, 2) := by decide +kernel
theorem dX4_shorten_37 : decode cX4_shorten 37 = .ok (.invokevirtual 119, 3) := by decide +kernel
theorem dX4_shorten_40 : decode cX4_shorten 40 = .ok (.iinc 5 (-1), 3) := by decide +kernel
theorem dX4_shorten_43 : decode cX4_shorten 43 = .ok (.goto (-17), 3) := by decide +kernel
theorem dX4_shorten_46 : decode cX4_shorten 46 = .ok (.aload_n 0, 1) := by decide +kernel
theorem dX4_shorten_47 : decode cX4_shorten 47 = .ok (.iload_n 1, 1) := by decide +kernel
theorem dX4_shorten_48 : decode cX4_shorten 48 = .ok (.iload_n 2, 1) := by decide +kernel
theorem dX4_shorten_49 : decode cX4_shorten 49 = .ok (.invokevirtual 102, 3) := by decide +kernel
theorem dX4_shorten_52 : decode cX4_shorten 52 = .ok (.aload_n 0, 1) := by decide +kernel
theorem dX4_shorten_53 : decode cX4_shorten 53 = .ok (.getfield 19, 3) := by decide +kernel
theorem dX4_shorten_56 : decode cX4_shorten 56 = .ok (.invokevirtual 116, 3) := by decide +kernel
theorem dX4_shorten_59 : decode cX4_shorten 59 = .ok (.iload_n 3, 1) := by decide +kernel
theorem dX4_shorten_60 : decode cX4_shorten 60 = .ok (.isub, 1) := by decide +kernel
theorem dX4_shorten_61 : decode cX4_shorten 61 = .ok (.ireturn, 1) := by decide +kernel
theorem dX4_dropBlock_0 : decode cX4_dropBlock 0 = .ok (.aload_n 0, 1) := by decide +kernel
theorem dX4_dropBlock_1 : decode cX4_dropBlock 1 = .ok (.getfield 15, 3) := by decide +kernel
theorem dX4_dropBlock_4 : decode cX4_dropBlock 4 = .ok (.iload_n 1, 1) := by decide +kernel
theorem dX4_dropBlock_5 : decode cX4_dropBlock 5 = .ok (.invokevirtual 23, 3) := by decide +kernel
theorem dX4_dropBlock_8 : decode cX4_dropBlock 8 = .ok (.istore_n 3, 1) := by decide +kernel
theorem dX4_dropBlock_9 : decode cX4_dropBlock 9 = .ok (.aload_n 0, 1) := by decide +kernel
theorem dX4_dropBlock_10 : decode cX4_dropBlock 10 = .ok (.iload_n 3, 1) := by decide +kernel
theorem dX4_dropBlock_11 : decode cX4_dropBlock 11 = .ok (.aload_n 0, 1) := by decide +kernel
theorem dX4_dropBlock_12 : decode cX4_dropBlock 12 = .ok (.iload_n 3, 1) := by decide +kernel
theorem dX4_dropBlock_13 : decode cX4_dropBlock 13 = .ok (.iload_n 2, 1) := by decide +kernel
theorem dX4_dropBlock_14 : decode cX4_dropBlock 14 = .ok (.invokevirtual 74, 3) := by decide +kernel
theorem dX4_dropBlock_17 : decode cX4_dropBlock 17 = .ok (.invokevirtual 92, 3) := by decide +kernel
theorem dX4_dropBlock_20 : decode cX4_dropBlock 20 = .ok (.iload_n 2, 1) := by decide +kernel
theorem dX4_dropBlock_21 : decode cX4_dropBlock 21 = .ok (.bipush 12, 2) := by decide +kernel
theorem dX4_dropBlock_23 : decode cX4_dropBlock 23 = .ok (.if_icmp .ne 12, 3) := by decide +kernel
theorem dX4_dropBlock_26 : decode cX4_dropBlock 26 = .ok (.aload_n 0, 1) := by decide +kernel
theorem dX4_dropBlock_27 : decode cX4_dropBlock 27 = .ok (.iload_n 3, 1) := by decide +kernel
theorem dX4_dropBlock_28 : decode cX4_dropBlock 28 = .ok (.iload_n 3, 1) := by decide +kernel
theorem dX4_dropBlock_29 : decode cX4_dropBlock 29 = .ok (.bipush 88, 2) := by decide +kernel
theorem dX4_dropBlock_31 : decode cX4_dropBlock 31 = .ok (.iadd, 1) := by decide +kernel
theorem dX4_dropBlock_32 : decode cX4_dropBlock 32 = .ok (.invokevirtual 92, 3) := by decide +kernel
theorem dX4_dropBlock_35 : decode cX4_dropBlock 35 = .ok (.iload_n 2, 1) := by decide +kernel
theorem dX4_dropBlock_36 : decode cX4_dropBlock 36 = .ok (.invokestatic 80, 3) := by decide +kernel
theorem dX4_dropBlock_39 : decode cX4_dropBlock 39 = .ok (.ifCond .eq 14, 3) := by decide +kernel
theorem dX4_dropBlock_42 : decode cX4_dropBlock 42 = .ok (.aload_n 0, 1) := by decide +kernel
theorem dX4_dropBlock_43 : decode cX4_dropBlock 43 = .ok (.iload_n 3, 1) := by decide +kernel
theorem dX4_dropBlock_44 : decode cX4_dropBlock 44 = .ok (.aload_n 0, 1) := by decide +kernel
theorem dX4_dropBlock_45 : decode cX4_dropBlock 45 = .ok (.iload_n 3, 1) := by decide +kernel
theorem dX4_dropBlock_46 : decode cX4_dropBlock 46 = .ok (.iload_n 2, 1) := by decide +kernel
theorem dX4_dropBlock_47 : decode cX4_dropBlock 47 = .ok (.invokevirtual 84, 3) := by decide +kernel
theorem dX4_dropBlock_50 : decode cX4_dropBlock 50 = .ok (.invokevirtual 92, 3) := by decide +kernel
theorem dX4_dropBlock_53 : decode cX4_dropBlock 53 = .ok (.iload_n 2, 1) := by decide +kernel
theorem dX4_dropBlock_54 : decode cX4_dropBlock 54 = .ok (.sipush 268, 3) := by decide +kernel
theorem dX4_dropBlock_57 : decode cX4_dropBlock 57 = .ok (.if_icmp .ne 12, 3) := by decide +kernel
theorem dX4_dropBlock_60 : decode cX4_dropBlock 60 = .ok (.aload_n 0, 1) := by decide +kernel
theorem dX4_dropBlock_61 : decode cX4_dropBlock 61 = .ok (.iload_n 3, 1) := by decide +kernel
theorem dX4_dropBlock_62 : decode cX4_dropBlock 62 = .ok (.iload_n 3, 1) := by decide +kernel
theorem dX4_dropBlock_63 : decode cX4_dropBlock 63 = .ok (.bipush 92, 2) := by decide +kernel
theorem dX4_dropBlock_65 : decode cX4_dropBlock 65 = .ok (.iadd, 1) := by decide +kernel
theorem dX4_dropBlock_66 : decode cX4_dropBlock 66 = .ok (.invokevirtual 92, 3) := by decide +kernel
theorem dX4_dropBlock_69 : decode cX4_dropBlock 69 = .ok (.return_, 1) := by decide +kernel
theorem dX4_lose_0 : decode cX4_lose 0 = .ok (.aload_n 0, 1) := by decide +kernel
theorem dX4_lose_1 : decode cX4_lose 1 = .ok (.getfield 19, 3) := by decide +kernel
theorem dX4_lose_4 : decode cX4_lose 4 = .ok (.aload_n 0, 1) := by decide +kernel
theorem dX4_lose_5 : decode cX4_lose 5 = .ok (.getfield 9, 3) := by decide +kernel
theorem dX4_lose_8 : decode cX4_lose 8 = .ok (.iload_n 2, 1) := by decide +kernel
theorem dX4_lose_9 : decode cX4_lose 9 = .ok (.invokevirtual 34, 3) := by decide +kernel
theorem dX4_lose_12 : decode cX4_lose 12 = .ok (.invokevirtual 95, 3) := by decide +kernel
theorem dX4_lose_15 : decode cX4_lose 15 = .ok (.aload_n 0, 1) := by decide +kernel
theorem dX4_lose_16 : decode cX4_lose 16 = .ok (.getfield 9, 3) := by decide +kernel
theorem dX4_lose_19 : decode cX4_lose 19 = .ok (.iload_n 2, 1) := by decide +kernel
theorem dX4_lose_20 : decode cX4_lose 20 = .ok (.iconst 0, 1) := by decide +kernel
theorem dX4_lose_21 : decode cX4_lose 21 = .ok (.invokevirtual 37, 3) := by decide +kernel
theorem dX4_lose_24 : decode cX4_lose 24 = .ok (.aload_n 0, 1) := by decide +kernel
theorem dX4_lose_25 : decode cX4_lose 25 = .ok (.getfield 9, 3) := by decide +kernel
theorem dX4_lose_28 : decode cX4_lose 28 = .ok (.iload_n 1, 1) := by decide +kernel
theorem dX4_lose_29 : decode cX4_lose 29 = .ok (.bipush 28, 2) := by decide +kernel
theorem dX4_lose_31 : decode cX4_lose 31 = .ok (.iadd, 1) := by decide +kernel
theorem dX4_lose_32 : decode cX4_lose 32 = .ok (.aload_n 0, 1) := by decide +kernel
theorem dX4_lose_33 : decode cX4_lose 33 = .ok (.getfield 9, 3) := by decide +kernel
theorem dX4_lose_36 : decode cX4_lose 36 = .ok (.iload_n 1, 1) := by decide +kernel
theorem dX4_lose_37 : decode cX4_lose 37 = .ok (.bipush 28, 2) := by decide +kernel
theorem dX4_lose_39 : decode cX4_lose 39 = .ok (.iadd, 1) := by decide +kernel
theorem dX4_lose_40 : decode cX4_lose 40 = .ok (.invokevirtual 34, 3) := by decide +kernel
theorem dX4_lose_43 : decode cX4_lose 43 = .ok (.iconst 2, 1) := by decide +kernel
theorem dX4_lose_44 : decode cX4_lose 44 = .ok (.isub, 1) := by decide +kernel
theorem dX4_lose_45 : decode cX4_lose 45 = .ok (.invokevirtual 37, 3) := by decide +kernel
theorem dX4_lose_48 : decode cX4_lose 48 = .ok (.return_, 1) := by decide +kernel
theorem dX3_giveBack_0 : decode cX3_giveBack 0 = .ok (.iload_n 1, 1) := by decide +kernel
theorem dX3_giveBack_1 : decode cX3_giveBack 1 = .ok (.iconst 1, 1) := by decide +kernel
theorem dX3_giveBack_2 : decode cX3_giveBack 2 = .ok (.if_icmp .lt 17, 3) := by decide +kernel
theorem dX3_giveBack_5 : decode cX3_giveBack 5 = .ok (.aload_n 0, 1) := by decide +kernel
theorem dX3_giveBack_6 : decode cX3_giveBack 6 = .ok (.iload_n 1, 1) := by decide +kernel
theorem dX3_giveBack_7 : decode cX3_giveBack 7 = .ok (.invokevirtual 86, 3) := by decide +kernel
theorem dX3_giveBack_10 : decode cX3_giveBack 10 = .ok (.ifCond .eq 9, 3) := by decide +kernel
theorem dX3_giveBack_13 : decode cX3_giveBack 13 = .ok (.aload_n 0, 1) := by decide +kernel
theorem dX3_giveBack_14 : decode cX3_giveBack 14 = .ok (.iload_n 1, 1) := by decide +kernel
theorem dX3_giveBack_15 : decode cX3_giveBack 15 = .ok (.iconst 0, 1) := by decide +kernel
theorem dX3_giveBack_16 : decode cX3_giveBack 16 = .ok (.invokevirtual 82, 3) := by decide +kernel
theorem dX3_giveBack_19 : decode cX3_giveBack 19 = .ok (.return_, 1) := by decide +kernel
theorem dX10_remove_0 : decode cX10_remove 0 = .ok (.aload_n 0, 1) := by decide +kernel
theorem dX10_remove_1 : decode cX10_remove 1 = .ok (.iload_n 1, 1) := by decide +kernel
theorem dX10_remove_2 : decode cX10_remove 2 = .ok (.invokevirtual 57, 3) := by decide +kernel
theorem dX10_remove_5 : decode cX10_remove 5 = .ok (.goto 12, 3) := by decide +kernel
theorem dX10_remove_8 : decode cX10_remove 8 = .ok (.astore_n 2, 1) := by decide +kernel
theorem dX10_remove_9 : decode cX10_remove 9 = .ok (.iconst 1, 1) := by decide +kernel
theorem dX10_remove_10 : decode cX10_remove 10 = .ok (.ireturn, 1) := by decide +kernel
theorem dX10_remove_11 : decode cX10_remove 11 = .ok (.astore_n 2, 1) := by decide +kernel
theorem dX10_remove_12 : decode cX10_remove 12 = .ok (.iconst 2, 1) := by decide +kernel
theorem dX10_remove_13 : decode cX10_remove 13 = .ok (.ireturn, 1) := by decide +kernel
theorem dX10_remove_14 : decode cX10_remove 14 = .ok (.astore_n 2, 1) := by decide +kernel
theorem dX10_remove_15 : decode cX10_remove 15 = .ok (.iconst 3, 1) := by decide +kernel
theorem dX10_remove_16 : decode cX10_remove 16 = .ok (.ireturn, 1) := by decide +kernel
theorem dX10_remove_17 : decode cX10_remove 17 = .ok (.iconst 0, 1) := by decide +kernel
theorem dX10_remove_18 : decode cX10_remove 18 = .ok (.ireturn, 1) := by decide +kernel
theorem dX0_remove_0 : decode cX0_remove 0 = .ok (.aload_n 0, 1) := by decide +kernel
theorem dX0_remove_1 : decode cX0_remove 1 = .ok (.iload_n 1, 1) := by decide +kernel
theorem dX0_remove_2 : decode cX0_remove 2 = .ok (.invokevirtual 174, 3) := by decide +kernel
theorem dX0_remove_5 : decode cX0_remove 5 = .ok (.istore_n 2, 1) := by decide +kernel
theorem dX0_remove_6 : decode cX0_remove 6 = .ok (.aload_n 0, 1) := by decide +kernel
theorem dX0_remove_7 : decode cX0_remove 7 = .ok (.getfield 60, 3) := by decide +kernel
theorem dX0_remove_10 : decode cX0_remove 10 = .ok (.iload_n 2, 1) := by decide +kernel
theorem dX0_remove_11 : decode cX0_remove 11 = .ok (.invokevirtual 180, 3) := by decide +kernel
theorem dX0_remove_14 : decode cX0_remove 14 = .ok (.istore_n 3, 1) := by decide +kernel
theorem dX0_remove_15 : decode cX0_remove 15 = .ok (.aload_n 0, 1) := by decide +kernel
theorem dX0_remove_16 : decode cX0_remove 16 = .ok (.getfield 51, 3) := by decide +kernel
theorem dX0_remove_19 : decode cX0_remove 19 = .ok (.iload_n 3, 1) := by decide +kernel
theorem dX0_remove_20 : decode cX0_remove 20 = .ok (.invokevirtual 183, 3) := by decide +kernel
theorem dX0_remove_23 : decode cX0_remove 23 = .ok (.istore 4, 2) := by decide +kernel
theorem dX0_remove_25 : decode cX0_remove 25 = .ok (.iload 4, 2) := by decide +kernel
theorem dX0_remove_27 : decode cX0_remove 27 = .ok (.ifCond .eq 64, 3) := by decide +kernel
theorem dX0_remove_30 : decode cX0_remove 30 = .ok (.aload_n 0, 1) := by decide +kernel
theorem dX0_remove_31 : decode cX0_remove 31 = .ok (.getfield 60, 3) := by decide +kernel
theorem dX0_remove_34 : decode cX0_remove 34 = .ok (.iload_n 3, 1) := by decide +kernel
theorem dX0_remove_35 : decode cX0_remove 35 = .ok (.invokevirtual 168, 3) := by decide +kernel
theorem dX0_remove_38 : decode cX0_remove 38 = .ok (.aload_n 0, 1) := by decide +kernel
theorem dX0_remove_39 : decode cX0_remove 39 = .ok (.getfield 60, 3) := by decide +kernel
theorem dX0_remove_42 : decode cX0_remove 42 = .ok (.invokevirtual 171, 3) := by decide +kernel
theorem dX0_remove_45 : decode cX0_remove 45 = .ok (.ifCond .le 14, 3) := by decide +kernel
theorem dX0_remove_48 : decode cX0_remove 48 = .ok (.new 105, 3) := by decide +kernel
theorem dX0_remove_51 : decode cX0_remove 51 = .ok (.dup, 1) := by decide +kernel
theorem dX0_remove_52 : decode cX0_remove 52 = .ok (.ldc_w 266, 3) := by decide +kernel
theorem dX0_remove_55 : decode cX0_remove 55 = .ok (.invokespecial 109, 3) := by decide +kernel
theorem dX0_remove_58 : decode cX0_remove 58 = .ok (.athrow, 1) := by decide +kernel
theorem dX0_remove_59 : decode cX0_remove 59 = .ok (.aload_n 0, 1) := by decide +kernel
theorem dX0_remove_60 : decode cX0_remove 60 = .ok (.getfield 60, 3) := by decide +kernel
theorem dX0_remove_63 : decode cX0_remove 63 = .ok (.aload_n 0, 1) := by decide +kernel
theorem dX0_remove_64 : decode cX0_remove 64 = .ok (.getfield 89, 3) := by decide +kernel
theorem dX0_remove_67 : decode cX0_remove 67 = .ok (.invokevirtual 168, 3) := by decide +kernel
theorem dX0_remove_70 : decode cX0_remove 70 = .ok (.aload_n 0, 1) := by decide +kernel
theorem dX0_remove_71 : decode cX0_remove 71 = .ok (.getfield 51, 3) := by decide +kernel
theorem dX0_remove_74 : decode cX0_remove 74 = .ok (.aload_n 0, 1) := by decide +kernel
theorem dX0_remove_75 : decode cX0_remove 75 = .ok (.getfield 89, 3) := by decide +kernel
theorem dX0_remove_78 : decode cX0_remove 78 = .ok (.iconst (-1), 1) := by decide +kernel
theorem dX0_remove_79 : decode cX0_remove 79 = .ok (.invokevirtual 239, 3) := by decide +kernel
theorem dX0_remove_82 : decode cX0_remove 82 = .ok (.aload_n 0, 1) := by decide +kernel
theorem dX0_remove_83 : decode cX0_remove 83 = .ok (.getfield 51, 3) := by decide +kernel
theorem dX0_remove_86 : decode cX0_remove 86 = .ok (.iload_n 3, 1) := by decide +kernel
theorem dX0_remove_87 : decode cX0_remove 87 = .ok (.iconst (-1), 1) := by decide +kernel
theorem dX0_remove_88 : decode cX0_remove 88 = .ok (.invokevirtual 133, 3) := by decide +kernel
theorem dX0_remove_91 : decode cX0_remove 91 = .ok (.aload_n 0, 1) := by decide +kernel
theorem dX0_remove_92 : decode cX0_remove 92 = .ok (.getfield 60, 3) := by decide +kernel
theorem dX0_remove_95 : decode cX0_remove 95 = .ok (.iload_n 2, 1) := by decide +kernel
theorem dX0_remove_96 : decode cX0_remove 96 = .ok (.invokevirtual 268, 3) := by decide +kernel
theorem dX0_remove_99 : decode cX0_remove 99 = .ok (.aload_n 0, 1) := by decide +kernel
theorem dX0_remove_100 : decode cX0_remove 100 = .ok (.getfield 51, 3) := by decide +kernel
theorem dX0_remove_103 : decode cX0_remove 103 = .ok (.iload_n 3, 1) := by decide +kernel
theorem dX0_remove_104 : decode cX0_remove 104 = .ok (.iconst 0, 1) := by decide +kernel
theorem dX0_remove_105 : decode cX0_remove 105 = .ok (.invokevirtual 263, 3) := by decide +kernel
theorem dX0_remove_108 : decode cX0_remove 108 = .ok (.pop, 1) := by decide +kernel
theorem dX0_remove_109 : decode cX0_remove 109 = .ok (.aload_n 0, 1) := by decide +kernel
theorem dX0_remove_110 : decode cX0_remove 110 = .ok (.getfield 51, 3) := by decide +kernel
theorem dX0_remove_113 : decode cX0_remove 113 = .ok (.iload_n 3, 1) := by decide +kernel
theorem dX0_remove_114 : decode cX0_remove 114 = .ok (.invokevirtual 271, 3) := by decide +kernel
theorem dX0_remove_117 : decode cX0_remove 117 = .ok (.aload_n 0, 1) := by decide +kernel
theorem dX0_remove_118 : decode cX0_remove 118 = .ok (.getfield 43, 3) := by decide +kernel
theorem dX0_remove_121 : decode cX0_remove 121 = .ok (.iload_n 3, 1) := by decide +kernel
theorem dX0_remove_122 : decode cX0_remove 122 = .ok (.invokevirtual 274, 3) := by decide +kernel
theorem dX0_remove_125 : decode cX0_remove 125 = .ok (.return_, 1) := by decide +kernel
theorem dX5_drop_0 : decode cX5_drop 0 = .ok (.aload_n 0, 1) := by decide +kernel
theorem dX5_drop_1 : decode cX5_drop 1 = .ok (.iload_n 1, 1) := by decide +kernel
theorem dX5_drop_2 : decode cX5_drop 2 = .ok (.invokevirtual 53, 3) := by decide +kernel
theorem dX5_drop_5 : decode cX5_drop 5 = .ok (.istore_n 2, 1) := by decide +kernel
theorem dX5_drop_6 : decode cX5_drop 6 = .ok (.iload_n 2, 1) := by decide +kernel
theorem dX5_drop_7 : decode cX5_drop 7 = .ok (.sipush 1024, 3) := by decide +kernel
theorem dX5_drop_10 : decode cX5_drop 10 = .ok (.irem, 1) := by decide +kernel
theorem dX5_drop_11 : decode cX5_drop 11 = .ok (.ifCond .ne 15, 3) := by decide +kernel
theorem dX5_drop_14 : decode cX5_drop 14 = .ok (.aload_n 0, 1) := by decide +kernel
theorem dX5_drop_15 : decode cX5_drop 15 = .ok (.getfield 15, 3) := by decide +kernel
theorem dX5_drop_18 : decode cX5_drop 18 = .ok (.iload_n 2, 1) := by decide +kernel
theorem dX5_drop_19 : decode cX5_drop 19 = .ok (.iconst 0, 1) := by decide +kernel
theorem dX5_drop_20 : decode cX5_drop 20 = .ok (.invokevirtual 93, 3) := by decide +kernel
theorem dX5_drop_23 : decode cX5_drop 23 = .ok (.goto 34, 3) := by decide +kernel
theorem dX5_drop_26 : decode cX5_drop 26 = .ok (.aload_n 0, 1) := by decide +kernel
theorem dX5_drop_27 : decode cX5_drop 27 = .ok (.iload_n 1, 1) := by decide +kernel
theorem dX5_drop_28 : decode cX5_drop 28 = .ok (.iconst 1, 1) := by decide +kernel
theorem dX5_drop_29 : decode cX5_drop 29 = .ok (.isub, 1) := by decide +kernel
theorem dX5_drop_30 : decode cX5_drop 30 = .ok (.invokevirtual 83, 3) := by decide +kernel
theorem dX5_drop_33 : decode cX5_drop 33 = .ok (.aload_n 0, 1) := by decide +kernel
theorem dX5_drop_34 : decode cX5_drop 34 = .ok (.iload_n 1, 1) := by decide +kernel
theorem dX5_drop_35 : decode cX5_drop 35 = .ok (.invokevirtual 83, 3) := by decide +kernel
theorem dX5_drop_38 : decode cX5_drop 38 = .ok (.iadd, 1) := by decide +kernel
theorem dX5_drop_39 : decode cX5_drop 39 = .ok (.istore_n 3, 1) := by decide +kernel
theorem dX5_drop_40 : decode cX5_drop 40 = .ok (.aload_n 0, 1) := by decide +kernel
theorem dX5_drop_41 : decode cX5_drop 41 = .ok (.getfield 15, 3) := by decide +kernel
theorem dX5_drop_44 : decode cX5_drop 44 = .ok (.aload_n 0, 1) := by decide +kernel
theorem dX5_drop_45 : decode cX5_drop 45 = .ok (.iload_n 1, 1) := by decide +kernel
theorem dX5_drop_46 : decode cX5_drop 46 = .ok (.iconst 1, 1) := by decide +kernel
theorem dX5_drop_47 : decode cX5_drop 47 = .ok (.isub, 1) := by decide +kernel
theorem dX5_drop_48 : decode cX5_drop 48 = .ok (.invokevirtual 53, 3) := by decide +kernel
theorem dX5_drop_51 : decode cX5_drop 51 = .ok (.iconst 4, 1) := by decide +kernel
theorem dX5_drop_52 : decode cX5_drop 52 = .ok (.iadd, 1) := by decide +kernel
theorem dX5_drop_53 : decode cX5_drop 53 = .ok (.iload_n 3, 1) := by decide +kernel
theorem dX5_drop_54 : decode cX5_drop 54 = .ok (.invokevirtual 89, 3) := by decide +kernel
theorem dX5_drop_57 : decode cX5_drop 57 = .ok (.return_, 1) := by decide +kernel
theorem dX4_erase_0 : decode cX4_erase 0 = .ok (.aload_n 0, 1) := by decide +kernel
theorem dX4_erase_1 : decode cX4_erase 1 = .ok (.getfield 15, 3) := by decide +kernel
theorem dX4_erase_4 : decode cX4_erase 4 = .ok (.iload_n 1, 1) := by decide +kernel
theorem dX4_erase_5 : decode cX4_erase 5 = .ok (.invokevirtual 23, 3) := by decide +kernel
theorem dX4_erase_8 : decode cX4_erase 8 = .ok (.istore_n 2, 1) := by decide +kernel
theorem dX4_erase_9 : decode cX4_erase 9 = .ok (.aload_n 0, 1) := by decide +kernel
theorem dX4_erase_10 : decode cX4_erase 10 = .ok (.getfield 9, 3) := by decide +kernel
theorem dX4_erase_13 : decode cX4_erase 13 = .ok (.iload_n 2, 1) := by decide +kernel
theorem dX4_erase_14 : decode cX4_erase 14 = .ok (.iload_n 2, 1) := by decide +kernel
theorem dX4_erase_15 : decode cX4_erase 15 = .ok (.sipush 128, 3) := by decide +kernel
theorem dX4_erase_18 : decode cX4_erase 18 = .ok (.iadd, 1) := by decide +kernel
theorem dX4_erase_19 : decode cX4_erase 19 = .ok (.iconst 0, 1) := by decide +kernel
theorem dX4_erase_20 : decode cX4_erase 20 = .ok (.invokevirtual 61, 3) := by decide +kernel
theorem dX4_erase_23 : decode cX4_erase 23 = .ok (.return_, 1) := by decide +kernel
theorem dX10_stamp_0 : decode cX10_stamp 0 = .ok (.aload_n 0, 1) := by decide +kernel
theorem dX10_stamp_1 : decode cX10_stamp 1 = .ok (.iload_n 1, 1) := by decide +kernel
theorem dX10_stamp_2 : decode cX10_stamp 2 = .ok (.iload_n 2, 1) := by decide +kernel
theorem dX10_stamp_3 : decode cX10_stamp 3 = .ok (.lload_n 3, 1) := by decide +kernel
theorem dX10_stamp_4 : decode cX10_stamp 4 = .ok (.invokevirtual 61, 3) := by decide +kernel
theorem dX10_stamp_7 : decode cX10_stamp 7 = .ok (.goto 15, 3) := by decide +kernel
theorem dX10_stamp_10 : decode cX10_stamp 10 = .ok (.astore 5, 2) := by decide +kernel
theorem dX10_stamp_12 : decode cX10_stamp 12 = .ok (.iconst 1, 1) := by decide +kernel
theorem dX10_stamp_13 : decode cX10_stamp 13 = .ok (.ireturn, 1) := by decide +kernel
theorem dX10_stamp_14 : decode cX10_stamp 14 = .ok (.astore 5, 2) := by decide +kernel
theorem dX10_stamp_16 : decode cX10_stamp 16 = .ok (.iconst 2, 1) := by decide +kernel
theorem dX10_stamp_17 : decode cX10_stamp 17 = .ok (.ireturn, 1) := by decide +kernel
theorem dX10_stamp_18 : decode cX10_stamp 18 = .ok (.astore 5, 2) := by decide +kernel
theorem dX10_stamp_20 : decode cX10_stamp 20 = .ok (.iconst 3, 1) := by decide +kernel
theorem dX10_stamp_21 : decode cX10_stamp 21 = .ok (.ireturn, 1) := by decide +kernel
theorem dX10_stamp_22 : decode cX10_stamp 22 = .ok (.iconst 0, 1) := by decide +kernel
theorem dX10_stamp_23 : decode cX10_stamp 23 = .ok (.ireturn, 1) := by decide +kernel
theorem dX0_stamp_0 : decode cX0_stamp 0 = .ok (.aload_n 0, 1) := by decide +kernel
theorem dX0_stamp_1 : decode cX0_stamp 1 = .ok (.getfield 60, 3) := by decide +kernel
theorem dX0_stamp_4 : decode cX0_stamp 4 = .ok (.aload_n 0, 1) := by decide +kernel
theorem dX0_stamp_5 : decode cX0_stamp 5 = .ok (.iload_n 1, 1) := by decide +kernel
theorem dX0_stamp_6 : decode cX0_stamp 6 = .ok (.invokevirtual 174, 3) := by decide +kernel
theorem dX0_stamp_9 : decode cX0_stamp 9 = .ok (.invokevirtual 180, 3) := by decide +kernel
theorem dX0_stamp_12 : decode cX0_stamp 12 = .ok (.istore 5, 2) := by decide +kernel
theorem dX0_stamp_14 : decode cX0_stamp 14 = .ok (.iload_n 2, 1) := by decide +kernel
theorem dX0_stamp_15 : decode cX0_stamp 15 = .ok (.ifCond .lt 8, 3) := by decide +kernel
theorem dX0_stamp_18 : decode cX0_stamp 18 = .ok (.iload_n 2, 1) := by decide +kernel
theorem dX0_stamp_19 : decode cX0_stamp 19 = .ok (.iconst 2, 1) := by decide +kernel
theorem dX0_stamp_20 : decode cX0_stamp 20 = .ok (.if_icmp .le 14, 3) := by decide +kernel
theorem dX0_stamp_23 : decode cX0_stamp 23 = .ok (.new 105, 3) := by decide +kernel
theorem dX0_stamp_26 : decode cX0_stamp 26 = .ok (.dup, 1) := by decide +kernel
theorem dX0_stamp_27 : decode cX0_stamp 27 = .ok (.ldc_w 277, 3) := by decide +kernel
theorem dX0_stamp_30 : decode cX0_stamp 30 = .ok (.invokespecial 109, 3) := by decide +kernel
theorem dX0_stamp_33 : decode cX0_stamp 33 = .ok (.athrow, 1) := by decide +kernel
theorem dX0_stamp_34 : decode cX0_stamp 34 = .ok (.aload_n 0, 1) := by decide +kernel
theorem dX0_stamp_35 : decode cX0_stamp 35 = .ok (.getfield 51, 3) := by decide +kernel
theorem dX0_stamp_38 : decode cX0_stamp 38 = .ok (.iload 5, 2) := by decide +kernel
theorem dX0_stamp_40 : decode cX0_stamp 40 = .ok (.iload_n 2, 1) := by decide +kernel
theorem dX0_stamp_41 : decode cX0_stamp 41 = .ok (.lload_n 3, 1) := by decide +kernel
theorem dX0_stamp_42 : decode cX0_stamp 42 = .ok (.invokevirtual 279, 3) := by decide +kernel
theorem dX0_stamp_45 : decode cX0_stamp 45 = .ok (.return_, 1) := by decide +kernel
theorem dX4_setTime_0 : decode cX4_setTime 0 = .ok (.aload_n 0, 1) := by decide +kernel
theorem dX4_setTime_1 : decode cX4_setTime 1 = .ok (.getfield 9, 3) := by decide +kernel
theorem dX4_setTime_4 : decode cX4_setTime 4 = .ok (.aload_n 0, 1) := by decide +kernel
theorem dX4_setTime_5 : decode cX4_setTime 5 = .ok (.getfield 15, 3) := by decide +kernel
theorem dX4_setTime_8 : decode cX4_setTime 8 = .ok (.iload_n 1, 1) := by decide +kernel
theorem dX4_setTime_9 : decode cX4_setTime 9 = .ok (.invokevirtual 23, 3) := by decide +kernel
theorem dX4_setTime_12 : decode cX4_setTime 12 = .ok (.bipush 8, 2) := by decide +kernel
theorem dX4_setTime_14 : decode cX4_setTime 14 = .ok (.iadd, 1) := by decide +kernel
theorem dX4_setTime_15 : decode cX4_setTime 15 = .ok (.iconst 4, 1) := by decide +kernel
theorem dX4_setTime_16 : decode cX4_setTime 16 = .ok (.iload_n 2, 1) := by decide +kernel
theorem dX4_setTime_17 : decode cX4_setTime 17 = .ok (.imul, 1) := by decide +kernel
theorem dX4_setTime_18 : decode cX4_setTime 18 = .ok (.iadd, 1) := by decide +kernel
theorem dX4_setTime_19 : decode cX4_setTime 19 = .ok (.lload_n 3, 1) := by decide +kernel
theorem dX4_setTime_20 : decode cX4_setTime 20 = .ok (.l2i, 1) := by decide +kernel
theorem dX4_setTime_21 : decode cX4_setTime 21 = .ok (.invokevirtual 37, 3) := by decide +kernel
theorem dX4_setTime_24 : decode cX4_setTime 24 = .ok (.return_, 1) := by decide +kernel
theorem dX12_init_0 : decode cX12_init 0 = .ok (.aload_n 0, 1) := by decide +kernel
theorem dX12_init_1 : decode cX12_init 1 = .ok (.invokespecial 1, 3) := by decide +kernel
theorem dX12_init_4 : decode cX12_init 4 = .ok (.aload_n 0, 1) := by decide +kernel
theorem dX12_init_5 : decode cX12_init 5 = .ok (.ldc 7, 2) := by decide +kernel
theorem dX12_init_7 : decode cX12_init 7 = .ok (.newarray .byte, 2) := by decide +kernel
theorem dX12_init_9 : decode cX12_init 9 = .ok (.putfield 8, 3) := by decide +kernel
theorem dX12_init_12 : decode cX12_init 12 = .ok (.aload_n 0, 1) := by decide +kernel
theorem dX12_init_13 : decode cX12_init 13 = .ok (.ldc 7, 2) := by decide +kernel
theorem dX12_init_15 : decode cX12_init 15 = .ok (.newarray .byte, 2) := by decide +kernel
theorem dX12_init_17 : decode cX12_init 17 = .ok (.putfield 14, 3) := by decide +kernel
theorem dX12_init_20 : decode cX12_init 20 = .ok (.aload_n 0, 1) := by decide +kernel
theorem dX12_init_21 : decode cX12_init 21 = .ok (.sipush 4096, 3) := by decide +kernel
theorem dX12_init_24 : decode cX12_init 24 = .ok (.newarray .byte, 2) := by decide +kernel
theorem dX12_init_26 : decode cX12_init 26 = .ok (.putfield 17, 3) := by decide +kernel
theorem dX12_init_29 : decode cX12_init 29 = .ok (.aload_n 0, 1) := by decide +kernel
theorem dX12_init_30 : decode cX12_init 30 = .ok (.bipush 20, 2) := by decide +kernel
theorem dX12_init_32 : decode cX12_init 32 = .ok (.newarray .byte, 2) := by decide +kernel
theorem dX12_init_34 : decode cX12_init 34 = .ok (.putfield 20, 3) := by decide +kernel
theorem dX12_init_37 : decode cX12_init 37 = .ok (.aload_n 0, 1) := by decide +kernel
theorem dX12_init_38 : decode cX12_init 38 = .ok (.sipush 512, 3) := by decide +kernel
theorem dX12_init_41 : decode cX12_init 41 = .ok (.newarray .boolean, 2) := by decide +kernel
theorem dX12_init_43 : decode cX12_init 43 = .ok (.putfield 23, 3) := by decide +kernel
theorem dX12_init_46 : decode cX12_init 46 = .ok (.aload_n 0, 1) := by decide +kernel
theorem dX12_init_47 : decode cX12_init 47 = .ok (.sipush 512, 3) := by decide +kernel
theorem dX12_init_50 : decode cX12_init 50 = .ok (.newarray .int, 2) := by decide +kernel
theorem dX12_init_52 : decode cX12_init 52 = .ok (.putfield 27, 3) := by decide +kernel
theorem dX12_init_55 : decode cX12_init 55 = .ok (.aload_n 0, 1) := by decide +kernel
theorem dX12_init_56 : decode cX12_init 56 = .ok (.sipush 2100, 3) := by decide +kernel
theorem dX12_init_59 : decode cX12_init 59 = .ok (.newarray .int, 2) := by decide +kernel
theorem dX12_init_61 : decode cX12_init 61 = .ok (.putfield 31, 3) := by decide +kernel
theorem dX12_init_64 : decode cX12_init 64 = .ok (.aload_n 0, 1) := by decide +kernel
theorem dX12_init_65 : decode cX12_init 65 = .ok (.sipush 2100, 3) := by decide +kernel
theorem dX12_init_68 : decode cX12_init 68 = .ok (.newarray .int, 2) := by decide +kernel
theorem dX12_init_70 : decode cX12_init 70 = .ok (.putfield 34, 3) := by decide +kernel
theorem dX12_init_73 : decode cX12_init 73 = .ok (.aload_n 0, 1) := by decide +kernel
theorem dX12_init_74 : decode cX12_init 74 = .ok (.sipush 2100, 3) := by decide +kernel
theorem dX12_init_77 : decode cX12_init 77 = .ok (.newarray .int, 2) := by decide +kernel
theorem dX12_init_79 : decode cX12_init 79 = .ok (.putfield 37, 3) := by decide +kernel
theorem dX12_init_82 : decode cX12_init 82 = .ok (.aload_n 0, 1) := by decide +kernel
theorem dX12_init_83 : decode cX12_init 83 = .ok (.sipush 2100, 3) := by decide +kernel
theorem dX12_init_86 : decode cX12_init 86 = .ok (.newarray .int, 2) := by decide +kernel
theorem dX12_init_88 : decode cX12_init 88 = .ok (.putfield 40, 3) := by decide +kernel
theorem dX12_init_91 : decode cX12_init 91 = .ok (.aload_n 0, 1) := by decide +kernel
theorem dX12_init_92 : decode cX12_init 92 = .ok (.sipush 2100, 3) := by decide +kernel
theorem dX12_init_95 : decode cX12_init 95 = .ok (.newarray .int, 2) := by decide +kernel
theorem dX12_init_97 : decode cX12_init 97 = .ok (.putfield 43, 3) := by decide +kernel
theorem dX12_init_100 : decode cX12_init 100 = .ok (.aload_n 0, 1) := by decide +kernel
theorem dX12_init_101 : decode cX12_init 101 = .ok (.sipush 2100, 3) := by decide +kernel
theorem dX12_init_104 : decode cX12_init 104 = .ok (.newarray .int, 2) := by decide +kernel
theorem dX12_init_106 : decode cX12_init 106 = .ok (.putfield 46, 3) := by decide +kernel
theorem dX12_init_109 : decode cX12_init 109 = .ok (.aload_n 0, 1) := by decide +kernel
theorem dX12_init_110 : decode cX12_init 110 = .ok (.sipush 2100, 3) := by decide +kernel
theorem dX12_init_113 : decode cX12_init 113 = .ok (.newarray .int, 2) := by decide +kernel
theorem dX12_init_115 : decode cX12_init 115 = .ok (.putfield 49, 3) := by decide +kernel
theorem dX12_init_118 : decode cX12_init 118 = .ok (.aload_n 0, 1) := by decide +kernel
theorem dX12_init_119 : decode cX12_init 119 = .ok (.sipush 2100, 3) := by decide +kernel
theorem dX12_init_122 : decode cX12_init 122 = .ok (.newarray .int, 2) := by decide +kernel
theorem dX12_init_124 : decode cX12_init 124 = .ok (.putfield 52, 3) := by decide +kernel
theorem dX12_init_127 : decode cX12_init 127 = .ok (.aload_n 0, 1) := by decide +kernel
theorem dX12_init_128 : decode cX12_init 128 = .ok (.sipush 2100, 3) := by decide +kernel
theorem dX12_init_131 : decode cX12_init 131 = .ok (.newarray .int, 2) := by decide +kernel
theorem dX12_init_133 : decode cX12_init 133 = .ok (.putfield 55, 3) := by decide +kernel
theorem dX12_init_136 : decode cX12_init 136 = .ok (.aload_n 0, 1) := by decide +kernel
theorem dX12_init_137 : decode cX12_init 137 = .ok (.sipush 2100, 3) := by decide +kernel
theorem dX12_init_140 : decode cX12_init 140 = .ok (.newarray .int, 2) := by decide +kernel
theorem dX12_init_142 : decode cX12_init 142 = .ok (.putfield 58, 3) := by decide +kernel
theorem dX12_init_145 : decode cX12_init 145 = .ok (.aload_n 0, 1) := by decide +kernel
theorem dX12_init_146 : decode cX12_init 146 = .ok (.sipush 6300, 3) := by decide +kernel
theorem dX12_init_149 : decode cX12_init 149 = .ok (.newarray .long, 2) := by decide +kernel
theorem dX12_init_151 : decode cX12_init 151 = .ok (.putfield 61, 3) := by decide +kernel
theorem dX12_init_154 : decode cX12_init 154 = .ok (.aload_n 0, 1) := by decide +kernel
theorem dX12_init_155 : decode cX12_init 155 = .ok (.sipush 255, 3) := by decide +kernel
theorem dX12_init_158 : decode cX12_init 158 = .ok (.newarray .int, 2) := by decide +kernel
theorem dX12_init_160 : decode cX12_init 160 = .ok (.putfield 65, 3) := by decide +kernel
theorem dX12_init_163 : decode cX12_init 163 = .ok (.aload_n 0, 1) := by decide +kernel
theorem dX12_init_164 : decode cX12_init 164 = .ok (.iload_n 1, 1) := by decide +kernel
theorem dX12_init_165 : decode cX12_init 165 = .ok (.sipush 128, 3) := by decide +kernel
theorem dX12_init_168 : decode cX12_init 168 = .ok (.if_icmp .ge 9, 3) := by decide +kernel
theorem dX12_init_171 : decode cX12_init 171 = .ok (.sipush 128, 3) := by decide +kernel
theorem dX12_init_174 : decode cX12_init 174 = .ok (.goto 17, 3) := by decide +kernel
theorem dX12_init_177 : decode cX12_init 177 = .ok (.iload_n 1, 1) := by decide +kernel
theorem dX12_init_178 : decode cX12_init 178 = .ok (.sipush 512, 3) := by decide +kernel
theorem dX12_init_181 : decode cX12_init 181 = .ok (.if_icmp .le 9, 3) := by decide +kernel
theorem dX12_init_184 : decode cX12_init 184 = .ok (.sipush 512, 3) := by decide +kernel
theorem dX12_init_187 : decode cX12_init 187 = .ok (.goto 4, 3) := by decide +kernel
theorem dX12_init_190 : decode cX12_init 190 = .ok (.iload_n 1, 1) := by decide +kernel
theorem dX12_init_191 : decode cX12_init 191 = .ok (.putfield 68, 3) := by decide +kernel
theorem dX12_init_194 : decode cX12_init 194 = .ok (.return_, 1) := by decide +kernel
theorem dX12_thrown_0 : decode cX12_thrown 0 = .ok (.aload_n 0, 1) := by decide +kernel
theorem dX12_thrown_1 : decode cX12_thrown 1 = .ok (.getfield 72, 3) := by decide +kernel
theorem dX12_thrown_4 : decode cX12_thrown 4 = .ok (.ireturn, 1) := by decide +kernel
theorem dX12_feed_0 : decode cX12_feed 0 = .ok (.aload_n 0, 1) := by decide +kernel
theorem dX12_feed_1 : decode cX12_feed 1 = .ok (.iconst 0, 1) := by decide +kernel
theorem dX12_feed_2 : decode cX12_feed 2 = .ok (.putfield 72, 3) := by decide +kernel
theorem dX12_feed_5 : decode cX12_feed 5 = .ok (.iconst 0, 1) := by decide +kernel
theorem dX12_feed_6 : decode cX12_feed 6 = .ok (.istore 6, 2) := by decide +kernel
theorem dX12_feed_8 : decode cX12_feed 8 = .ok (.iload 6, 2) := by decide +kernel
theorem dX12_feed_10 : decode cX12_feed 10 = .ok (.bipush 20, 2) := by decide +kernel
theorem dX12_feed_12 : decode cX12_feed 12 = .ok (.if_icmp .ge 78, 3) := by decide +kernel
theorem dX12_feed_15 : decode cX12_feed 15 = .ok (.iload 6, 2) := by decide +kernel
theorem dX12_feed_17 : decode cX12_feed 17 = .ok (.iconst 4, 1) := by decide +kernel
theorem dX12_feed_18 : decode cX12_feed 18 = .ok (.if_icmp .ge 7, 3) := by decide +kernel
theorem dX12_feed_21 : decode cX12_feed 21 = .ok (.iload_n 1, 1) := by decide +kernel
theorem dX12_feed_22 : decode cX12_feed 22 = .ok (.goto 39, 3) := by decide +kernel
theorem dX12_feed_25 : decode cX12_feed 25 = .ok (.iload 6, 2) := by decide +kernel
theorem dX12_feed_27 : decode cX12_feed 27 = .ok (.bipush 8, 2) := by decide +kernel
theorem dX12_feed_29 : decode cX12_feed 29 = .ok (.if_icmp .ge 7, 3) := by decide +kernel
theorem dX12_feed_32 : decode cX12_feed 32 = .ok (.iload_n 2, 1) := by decide +kernel
theorem dX12_feed_33 : decode cX12_feed 33 = .ok (.goto 28, 3) := by decide +kernel
theorem dX12_feed_36 : decode cX12_feed 36 = .ok (.iload 6, 2) := by decide +kernel
theorem dX12_feed_38 : decode cX12_feed 38 = .ok (.bipush 12, 2) := by decide +kernel
theorem dX12_feed_40 : decode cX12_feed 40 = .ok (.if_icmp .ge 7, 3) := by decide +kernel
theorem dX12_feed_43 : decode cX12_feed 43 = .ok (.iload_n 3, 1) := by decide +kernel
theorem dX12_feed_44 : decode cX12_feed 44 = .ok (.goto 17, 3) := by decide +kernel
theorem dX12_feed_47 : decode cX12_feed 47 = .ok (.iload 6, 2) := by decide +kernel
theorem dX12_feed_49 : decode cX12_feed 49 = .ok (.bipush 16, 2) := by decide +kernel
theorem dX12_feed_51 : decode cX12_feed 51 = .ok (.if_icmp .ge 8, 3) := by decide +kernel
theorem dX12_feed_54 : decode cX12_feed 54 = .ok (.iload 4, 2) := by decide +kernel
theorem dX12_feed_56 : decode cX12_feed 56 = .ok (.goto 5, 3) := by decide +kernel
theorem dX12_feed_59 : decode cX12_feed 59 = .ok (.iload 5, 2) := by decide +kernel
theorem dX12_feed_61 : decode cX12_feed 61 = .ok (.istore 7, 2) := by decide +kernel
theorem dX12_feed_63 : decode cX12_feed 63 = .ok (.aload_n 0, 1) := by decide +kernel
theorem dX12_feed_64 : decode cX12_feed 64 = .ok (.getfield 20, 3) := by decide +kernel
theorem dX12_feed_67 : decode cX12_feed 67 = .ok (.iload 6, 2) := by decide +kernel
theorem dX12_feed_69 : decode cX12_feed 69 = .ok (.iload 7, 2) := by decide +kernel
theorem dX12_feed_71 : decode cX12_feed 71 = .ok (.bipush 24, 2) := by decide +kernel
theorem dX12_feed_73 : decode cX12_feed 73 = .ok (.bipush 8, 2) := by decide +kernel
theorem dX12_feed_75 : decode cX12_feed 75 = .ok (.iload 6, 2) := by decide +kernel
theorem dX12_feed_77 : decode cX12_feed 77 = .ok (.iconst 4, 1) := by decide +kernel
theorem dX12_feed_78 : decode cX12_feed 78 = .ok (.irem, 1) := by decide +kernel
theorem dX12_feed_79 : decode cX12_feed 79 = .ok (.imul, 1) := by decide +kernel
theorem dX12_feed_80 : decode cX12_feed 80 = .ok (.isub, 1) := by decide +kernel
theorem dX12_feed_81 : decode cX12_feed 81 = .ok (.ishr, 1) := by decide +kernel
theorem dX12_feed_82 : decode cX12_feed 82 = .ok (.i2b, 1) := by decide +kernel
theorem dX12_feed_83 : decode cX12_feed 83 = .ok (.bastore, 1) := by decide +kernel
theorem dX12_feed_84 : decode cX12_feed 84 = .ok (.iinc 6 1, 3) := by decide +kernel
theorem dX12_feed_87 : decode cX12_feed 87 = .ok (.goto (-79), 3) := by decide +kernel
theorem dX12_feed_90 : decode cX12_feed 90 = .ok (.return_, 1) := by decide +kernel
theorem dX12_end_0 : decode cX12_end 0 = .ok (.aload_n 0, 1) := by decide +kernel
theorem dX12_end_1 : decode cX12_end 1 = .ok (.iconst 0, 1) := by decide +kernel
theorem dX12_end_2 : decode cX12_end 2 = .ok (.putfield 72, 3) := by decide +kernel
theorem dX12_end_5 : decode cX12_end 5 = .ok (.iload_n 1, 1) := by decide +kernel
theorem dX12_end_6 : decode cX12_end 6 = .ok (.ifCond .lt 21, 3) := by decide +kernel
theorem dX12_end_9 : decode cX12_end 9 = .ok (.iload_n 1, 1) := by decide +kernel
theorem dX12_end_10 : decode cX12_end 10 = .ok (.bipush 20, 2) := by decide +kernel
theorem dX12_end_12 : decode cX12_end 12 = .ok (.if_icmp .gt 15, 3) := by decide +kernel
theorem dX12_end_15 : decode cX12_end 15 = .ok (.aload_n 0, 1) := by decide +kernel
theorem dX12_end_16 : decode cX12_end 16 = .ok (.getfield 75, 3) := by decide +kernel
theorem dX12_end_19 : decode cX12_end 19 = .ok (.iload_n 1, 1) := by decide +kernel
theorem dX12_end_20 : decode cX12_end 20 = .ok (.iadd, 1) := by decide +kernel
theorem dX12_end_21 : decode cX12_end 21 = .ok (.sipush 4096, 3) := by decide +kernel
theorem dX12_end_24 : decode cX12_end 24 = .ok (.if_icmp .le 5, 3) := by decide +kernel
theorem dX12_end_27 : decode cX12_end 27 = .ok (.iconst (-1), 1) := by decide +kernel
theorem dX12_end_28 : decode cX12_end 28 = .ok (.ireturn, 1) := by decide +kernel
theorem dX12_end_29 : decode cX12_end 29 = .ok (.iconst 0, 1) := by decide +kernel
theorem dX12_end_30 : decode cX12_end 30 = .ok (.istore_n 2, 1) := by decide +kernel
theorem dX12_end_31 : decode cX12_end 31 = .ok (.iload_n 2, 1) := by decide +kernel
theorem dX12_end_32 : decode cX12_end 32 = .ok (.iload_n 1, 1) := by decide +kernel
theorem dX12_end_33 : decode cX12_end 33 = .ok (.if_icmp .ge 26, 3) := by decide +kernel
theorem dX12_end_36 : decode cX12_end 36 = .ok (.aload_n 0, 1) := by decide +kernel
theorem dX12_end_37 : decode cX12_end 37 = .ok (.getfield 17, 3) := by decide +kernel
theorem dX12_end_40 : decode cX12_end 40 = .ok (.aload_n 0, 1) := by decide +kernel
theorem dX12_end_41 : decode cX12_end 41 = .ok (.getfield 75, 3) := by decide +kernel
theorem dX12_end_44 : decode cX12_end 44 = .ok (.iload_n 2, 1) := by decide +kernel
theorem dX12_end_45 : decode cX12_end 45 = .ok (.iadd, 1) := by decide +kernel
theorem dX12_end_46 : decode cX12_end 46 = .ok (.aload_n 0, 1) := by decide +kernel
theorem dX12_end_47 : decode cX12_end 47 = .ok (.getfield 20, 3) := by decide +kernel
theorem dX12_end_50 : decode cX12_end 50 = .ok (.iload_n 2, 1) := by decide +kernel
theorem dX12_end_51 : decode cX12_end 51 = .ok (.baload, 1) := by decide +kernel
theorem dX12_end_52 : decode cX12_end 52 = .ok (.bastore, 1) := by decide +kernel
theorem dX12_end_53 : decode cX12_end 53 = .ok (.iinc 2 1, 3) := by decide +kernel
theorem dX12_end_56 : decode cX12_end 56 = .ok (.goto (-25), 3) := by decide +kernel
theorem dX12_end_59 : decode cX12_end 59 = .ok (.iconst 0, 1) := by decide +kernel
theorem dX12_end_60 : decode cX12_end 60 = .ok (.istore_n 2, 1) := by decide +kernel
theorem dX12_end_61 : decode cX12_end 61 = .ok (.iload_n 2, 1) := by decide +kernel
theorem dX12_end_62 : decode cX12_end 62 = .ok (.bipush 20, 2) := by decide +kernel
theorem dX12_end_64 : decode cX12_end 64 = .ok (.if_icmp .ge 16, 3) := by decide +kernel
theorem dX12_end_67 : decode cX12_end 67 = .ok (.aload_n 0, 1) := by decide +kernel
theorem dX12_end_68 : decode cX12_end 68 = .ok (.getfield 20, 3) := by decide +kernel
theorem dX12_end_71 : decode cX12_end 71 = .ok (.iload_n 2, 1) := by decide +kernel
theorem dX12_end_72 : decode cX12_end 72 = .ok (.iconst 0, 1) := by decide +kernel
theorem dX12_end_73 : decode cX12_end 73 = .ok (.bastore, 1) := by decide +kernel
theorem dX12_end_74 : decode cX12_end 74 = .ok (.iinc 2 1, 3) := by decide +kernel
theorem dX12_end_77 : decode cX12_end 77 = .ok (.goto (-16), 3) := by decide +kernel
theorem dX12_end_80 : decode cX12_end 80 = .ok (.aload_n 0, 1) := by decide +kernel
theorem dX12_end_81 : decode cX12_end 81 = .ok (.dup, 1) := by decide +kernel
theorem dX12_end_82 : decode cX12_end 82 = .ok (.getfield 75, 3) := by decide +kernel
theorem dX12_end_85 : decode cX12_end 85 = .ok (.iload_n 1, 1) := by decide +kernel
theorem dX12_end_86 : decode cX12_end 86 = .ok (.iadd, 1) := by decide +kernel
theorem dX12_end_87 : decode cX12_end 87 = .ok (.putfield 75, 3) := by decide +kernel
theorem dX12_end_90 : decode cX12_end 90 = .ok (.aload_n 0, 1) := by decide +kernel
theorem dX12_end_91 : decode cX12_end 91 = .ok (.getfield 75, 3) := by decide +kernel
theorem dX12_end_94 : decode cX12_end 94 = .ok (.ireturn, 1) := by decide +kernel
theorem dX12_format_0 : decode cX12_format 0 = .ok (.aload_n 0, 1) := by decide +kernel
theorem dX12_format_1 : decode cX12_format 1 = .ok (.iload_n 1, 1) := by decide +kernel
theorem dX12_format_2 : decode cX12_format 2 = .ok (.bipush 64, 2) := by decide +kernel
theorem dX12_format_4 : decode cX12_format 4 = .ok (.if_icmp .eq 17, 3) := by decide +kernel
theorem dX12_format_7 : decode cX12_format 7 = .ok (.iload_n 1, 1) := by decide +kernel
theorem dX12_format_8 : decode cX12_format 8 = .ok (.sipush 128, 3) := by decide +kernel
theorem dX12_format_11 : decode cX12_format 11 = .ok (.if_icmp .eq 10, 3) := by decide +kernel
theorem dX12_format_14 : decode cX12_format 14 = .ok (.iload_n 1, 1) := by decide +kernel
theorem dX12_format_15 : decode cX12_format 15 = .ok (.sipush 256, 3) := by decide +kernel
theorem dX12_format_18 : decode cX12_format 18 = .ok (.if_icmp .ne 16, 3) := by decide +kernel
theorem dX12_format_21 : decode cX12_format 21 = .ok (.iload_n 2, 1) := by decide +kernel
theorem dX12_format_22 : decode cX12_format 22 = .ok (.bipush 12, 2) := by decide +kernel
theorem dX12_format_24 : decode cX12_format 24 = .ok (.if_icmp .lt 10, 3) := by decide +kernel
theorem dX12_format_27 : decode cX12_format 27 = .ok (.iload_n 2, 1) := by decide +kernel
theorem dX12_format_28 : decode cX12_format 28 = .ok (.sipush 2000, 3) := by decide +kernel
theorem dX12_format_31 : decode cX12_format 31 = .ok (.if_icmp .le 7, 3) := by decide +kernel
theorem dX12_format_34 : decode cX12_format 34 = .ok (.iconst 1, 1) := by decide +kernel
theorem dX12_format_35 : decode cX12_format 35 = .ok (.goto 4, 3) := by decide +kernel
theorem dX12_format_38 : decode cX12_format 38 = .ok (.iconst 0, 1) := by decide +kernel
theorem dX12_format_39 : decode cX12_format 39 = .ok (.putfield 72, 3) := by decide +kernel
theorem dX12_format_42 : decode cX12_format 42 = .ok (.aload_n 0, 1) := by decide +kernel
theorem dX12_format_43 : decode cX12_format 43 = .ok (.getfield 72, 3) := by decide +kernel
theorem dX12_format_46 : decode cX12_format 46 = .ok (.ifCond .le 5, 3) := by decide +kernel
theorem dX12_format_49 : decode cX12_format 49 = .ok (.iconst 0, 1) := by decide +kernel
theorem dX12_format_50 : decode cX12_format 50 = .ok (.ireturn, 1) := by decide +kernel
theorem dX12_format_51 : decode cX12_format 51 = .ok (.aload_n 0, 1) := by decide +kernel
theorem dX12_format_52 : decode cX12_format 52 = .ok (.getfield 68, 3) := by decide +kernel
theorem dX12_format_55 : decode cX12_format 55 = .ok (.iconst 1, 1) := by decide +kernel
theorem dX12_format_56 : decode cX12_format 56 = .ok (.isub, 1) := by decide +kernel
theorem dX12_format_57 : decode cX12_format 57 = .ok (.iload_n 1, 1) := by decide +kernel
theorem dX12_format_58 : decode cX12_format 58 = .ok (.invokestatic 94, 3) := by decide +kernel
theorem dX12_format_61 : decode cX12_format 61 = .ok (.istore 4, 2) := by decide +kernel
theorem dX12_format_63 : decode cX12_format 63 = .ok (.iload_n 2, 1) := by decide +kernel
theorem dX12_format_64 : decode cX12_format 64 = .ok (.bipush 8, 2) := by decide +kernel
theorem dX12_format_66 : decode cX12_format 66 = .ok (.iload 4, 2) := by decide +kernel
theorem dX12_format_68 : decode cX12_format 68 = .ok (.imul, 1) := by decide +kernel
theorem dX12_format_69 : decode cX12_format 69 = .ok (.invokestatic 94, 3) := by decide +kernel
theorem dX12_format_72 : decode cX12_format 72 = .ok (.bipush 8, 2) := by decide +kernel
theorem dX12_format_74 : decode cX12_format 74 = .ok (.imul, 1) := by decide +kernel
theorem dX12_format_75 : decode cX12_format 75 = .ok (.istore 5, 2) := by decide +kernel
theorem dX12_format_77 : decode cX12_format 77 = .ok (.iload 4, 2) := by decide +kernel
theorem dX12_format_79 : decode cX12_format 79 = .ok (.iconst 1, 1) := by decide +kernel
theorem dX12_format_80 : decode cX12_format 80 = .ok (.if_icmp .ne 12, 3) := by decide +kernel
theorem dX12_format_83 : decode cX12_format 83 = .ok (.aload_n 0, 1) := by decide +kernel
theorem dX12_format_84 : decode cX12_format 84 = .ok (.getfield 68, 3) := by decide +kernel
theorem dX12_format_87 : decode cX12_format 87 = .ok (.iconst 1, 1) := by decide +kernel
theorem dX12_format_88 : decode cX12_format 88 = .ok (.isub, 1) := by decide +kernel
theorem dX12_format_89 : decode cX12_format 89 = .ok (.goto 16, 3) := by decide +kernel
theorem dX12_format_92 : decode cX12_format 92 = .ok (.aload_n 0, 1) := by decide +kernel
theorem dX12_format_93 : decode cX12_format 93 = .ok (.getfield 68, 3) := by decide +kernel
theorem dX12_format_96 : decode cX12_format 96 = .ok (.iconst 1, 1) := by decide +kernel
theorem dX12_format_97 : decode cX12_format 97 = .ok (.isub, 1) := by decide +kernel
theorem dX12_format_98 : decode cX12_format 98 = .ok (.iload 4, 2) := by decide +kernel
theorem dX12_format_100 : decode cX12_format 100 = .ok (.iconst 1, 1) := by decide +kernel
theorem dX12_format_101 : decode cX12_format 101 = .ok (.isub, 1) := by decide +kernel
theorem dX12_format_102 : decode cX12_format 102 = .ok (.iload_n 1, 1) := by decide +kernel
theorem dX12_format_103 : decode cX12_format 103 = .ok (.imul, 1) := by decide +kernel
theorem dX12_format_104 : decode cX12_format 104 = .ok (.isub, 1) := by decide +kernel
theorem dX12_format_105 : decode cX12_format 105 = .ok (.istore 6, 2) := by decide +kernel
theorem dX12_format_107 : decode cX12_format 107 = .ok (.aload_n 0, 1) := by decide +kernel
theorem dX12_format_108 : decode cX12_format 108 = .ok (.iload_n 1, 1) := by decide +kernel
theorem dX12_format_109 : decode cX12_format 109 = .ok (.bipush 12, 2) := by decide +kernel
theorem dX12_format_111 : decode cX12_format 111 = .ok (.iload 5, 2) := by decide +kernel
theorem dX12_format_113 : decode cX12_format 113 = .ok (.bipush 8, 2) := by decide +kernel
theorem dX12_format_115 : decode cX12_format 115 = .ok (.idiv, 1) := by decide +kernel
theorem dX12_format_116 : decode cX12_format 116 = .ok (.iadd, 1) := by decide +kernel
theorem dX12_format_117 : decode cX12_format 117 = .ok (.if_icmp .ge 9, 3) := by decide +kernel
theorem dX12_format_120 : decode cX12_format 120 = .ok (.iload 4, 2) := by decide +kernel
theorem dX12_format_122 : decode cX12_format 122 = .ok (.iconst 1, 1) := by decide +kernel
theorem dX12_format_123 : decode cX12_format 123 = .ok (.if_icmp .gt 16, 3) := by decide +kernel
theorem dX12_format_126 : decode cX12_format 126 = .ok (.iload 6, 2) := by decide +kernel
theorem dX12_format_128 : decode cX12_format 128 = .ok (.bipush 12, 2) := by decide +kernel
theorem dX12_format_130 : decode cX12_format 130 = .ok (.iload 5, 2) := by decide +kernel
theorem dX12_format_132 : decode cX12_format 132 = .ok (.bipush 8, 2) := by decide +kernel
theorem dX12_format_134 : decode cX12_format 134 = .ok (.idiv, 1) := by decide +kernel
theorem dX12_format_135 : decode cX12_format 135 = .ok (.iadd, 1) := by decide +kernel
theorem dX12_format_136 : decode cX12_format 136 = .ok (.if_icmp .ge 7, 3) := by decide +kernel
theorem dX12_format_139 : decode cX12_format 139 = .ok (.iconst 1, 1) := by decide +kernel
theorem dX12_format_140 : decode cX12_format 140 = .ok (.goto 4, 3) := by decide +kernel
theorem dX12_format_143 : decode cX12_format 143 = .ok (.iconst 0, 1) := by decide +kernel
theorem dX12_format_144 : decode cX12_format 144 = .ok (.putfield 72, 3) := by decide +kernel
theorem dX12_format_147 : decode cX12_format 147 = .ok (.aload_n 0, 1) := by decide +kernel
theorem dX12_format_148 : decode cX12_format 148 = .ok (.getfield 72, 3) := by decide +kernel
theorem dX12_format_151 : decode cX12_format 151 = .ok (.ifCond .le 5, 3) := by decide +kernel
theorem dX12_format_154 : decode cX12_format 154 = .ok (.iconst 0, 1) := by decide +kernel
theorem dX12_format_155 : decode cX12_format 155 = .ok (.ireturn, 1) := by decide +kernel
theorem dX12_format_156 : decode cX12_format 156 = .ok (.aload_n 0, 1) := by decide +kernel
theorem dX12_format_157 : decode cX12_format 157 = .ok (.iload_n 1, 1) := by decide +kernel
theorem dX12_format_158 : decode cX12_format 158 = .ok (.putfield 78, 3) := by decide +kernel
theorem dX12_format_161 : decode cX12_format 161 = .ok (.aload_n 0, 1) := by decide +kernel
theorem dX12_format_162 : decode cX12_format 162 = .ok (.iload 4, 2) := by decide +kernel
theorem dX12_format_164 : decode cX12_format 164 = .ok (.putfield 81, 3) := by decide +kernel
theorem dX12_format_167 : decode cX12_format 167 = .ok (.aload_n 0, 1) := by decide +kernel
theorem dX12_format_168 : decode cX12_format 168 = .ok (.iload 5, 2) := by decide +kernel
theorem dX12_format_170 : decode cX12_format 170 = .ok (.putfield 91, 3) := by decide +kernel
theorem dX12_format_173 : decode cX12_format 173 = .ok (.aload_n 0, 1) := by decide +kernel
theorem dX12_format_174 : decode cX12_format 174 = .ok (.aload_n 0, 1) := by decide +kernel
theorem dX12_format_175 : decode cX12_format 175 = .ok (.getfield 91, 3) := by decide +kernel
theorem dX12_format_178 : decode cX12_format 178 = .ok (.bipush 8, 2) := by decide +kernel
theorem dX12_format_180 : decode cX12_format 180 = .ok (.idiv, 1) := by decide +kernel
theorem dX12_format_181 : decode cX12_format 181 = .ok (.putfield 88, 3) := by decide +kernel
theorem dX12_format_184 : decode cX12_format 184 = .ok (.aload_n 0, 1) := by decide +kernel
theorem dX12_format_185 : decode cX12_format 185 = .ok (.iload_n 3, 1) := by decide +kernel
theorem dX12_format_186 : decode cX12_format 186 = .ok (.putfield 116, 3) := by decide +kernel
theorem dX12_format_189 : decode cX12_format 189 = .ok (.iconst 0, 1) := by decide +kernel
theorem dX12_format_190 : decode cX12_format 190 = .ok (.istore 7, 2) := by decide +kernel
theorem dX12_format_192 : decode cX12_format 192 = .ok (.iload 7, 2) := by decide +kernel
theorem dX12_format_194 : decode cX12_format 194 = .ok (.sipush 512, 3) := by decide +kernel
theorem dX12_format_197 : decode cX12_format 197 = .ok (.if_icmp .ge 39, 3) := by decide +kernel
theorem dX12_format_200 : decode cX12_format 200 = .ok (.aload_n 0, 1) := by decide +kernel
theorem dX12_format_201 : decode cX12_format 201 = .ok (.getfield 23, 3) := by decide +kernel
theorem dX12_format_204 : decode cX12_format 204 = .ok (.iload 7, 2) := by decide +kernel
theorem dX12_format_206 : decode cX12_format 206 = .ok (.iload 7, 2) := by decide +kernel
theorem dX12_format_208 : decode cX12_format 208 = .ok (.aload_n 0, 1) := by decide +kernel
theorem dX12_format_209 : decode cX12_format 209 = .ok (.getfield 68, 3) := by decide +kernel
theorem dX12_format_212 : decode cX12_format 212 = .ok (.if_icmp .ge 12, 3) := by decide +kernel
theorem dX12_format_215 : decode cX12_format 215 = .ok (.aload_n 0, 1) := by decide +kernel
theorem dX12_format_216 : decode cX12_format 216 = .ok (.iload 7, 2) := by decide +kernel
theorem dX12_format_218 : decode cX12_format 218 = .ok (.invokevirtual 119, 3) := by decide +kernel
theorem dX12_format_221 : decode cX12_format 221 = .ok (.ifCond .eq 7, 3) := by decide +kernel
theorem dX12_format_224 : decode cX12_format 224 = .ok (.iconst 1, 1) := by decide +kernel
theorem dX12_format_225 : decode cX12_format 225 = .ok (.goto 4, 3) := by decide +kernel
theorem dX12_format_228 : decode cX12_format 228 = .ok (.iconst 0, 1) := by decide +kernel
theorem dX12_format_229 : decode cX12_format 229 = .ok (.bastore, 1) := by decide +kernel
theorem dX12_format_230 : decode cX12_format 230 = .ok (.iinc 7 1, 3) := by decide +kernel
theorem dX12_format_233 : decode cX12_format 233 = .ok (.goto (-41), 3) := by decide +kernel
theorem dX12_format_236 : decode cX12_format 236 = .ok (.iconst 0, 1) := by decide +kernel
theorem dX12_format_237 : decode cX12_format 237 = .ok (.istore 7, 2) := by decide +kernel
theorem dX12_format_239 : decode cX12_format 239 = .ok (.iload 7, 2) := by decide +kernel
theorem dX12_format_241 : decode cX12_format 241 = .ok (.sipush 2100, 3) := by decide +kernel
theorem dX12_format_244 : decode cX12_format 244 = .ok (.if_icmp .ge 39, 3) := by decide +kernel
theorem dX12_format_247 : decode cX12_format 247 = .ok (.aload_n 0, 1) := by decide +kernel
theorem dX12_format_248 : decode cX12_format 248 = .ok (.getfield 31, 3) := by decide +kernel
theorem dX12_format_251 : decode cX12_format 251 = .ok (.iload 7, 2) := by decide +kernel
theorem dX12_format_253 : decode cX12_format 253 = .ok (.iload 7, 2) := by decide +kernel
theorem dX12_format_255 : decode cX12_format 255 = .ok (.ifCond .le 14, 3) := by decide +kernel
theorem dX12_format_258 : decode cX12_format 258 = .ok (.iload 7, 2) := by decide +kernel
theorem dX12_format_260 : decode cX12_format 260 = .ok (.bipush 12, 2) := by decide +kernel
theorem dX12_format_262 : decode cX12_format 262 = .ok (.if_icmp .ge 7, 3) := by decide +kernel
theorem dX12_format_265 : decode cX12_format 265 = .ok (.iconst 3, 1) := by decide +kernel
theorem dX12_format_266 : decode cX12_format 266 = .ok (.goto 4, 3) := by decide +kernel
theorem dX12_format_269 : decode cX12_format 269 = .ok (.iconst 0, 1) := by decide +kernel
theorem dX12_format_270 : decode cX12_format 270 = .ok (.iastore, 1) := by decide +kernel
theorem dX12_format_271 : decode cX12_format 271 = .ok (.aload_n 0, 1) := by decide +kernel
theorem dX12_format_272 : decode cX12_format 272 = .ok (.iload 7, 2) := by decide +kernel
theorem dX12_format_274 : decode cX12_format 274 = .ok (.invokevirtual 123, 3) := by decide +kernel
theorem dX12_format_277 : decode cX12_format 277 = .ok (.iinc 7 1, 3) := by decide +kernel
theorem dX12_format_280 : decode cX12_format 280 = .ok (.goto (-41), 3) := by decide +kernel
theorem dX12_format_283 : decode cX12_format 283 = .ok (.aload_n 0, 1) := by decide +kernel
theorem dX12_format_284 : decode cX12_format 284 = .ok (.getfield 31, 3) := by decide +kernel
theorem dX12_format_287 : decode cX12_format 287 = .ok (.iconst 2, 1) := by decide +kernel
theorem dX12_format_288 : decode cX12_format 288 = .ok (.iconst 2, 1) := by decide +kernel
theorem dX12_format_289 : decode cX12_format 289 = .ok (.iastore, 1) := by decide +kernel
theorem dX12_format_290 : decode cX12_format 290 = .ok (.aload_n 0, 1) := by decide +kernel
theorem dX12_format_291 : decode cX12_format 291 = .ok (.getfield 58, 3) := by decide +kernel
theorem dX12_format_294 : decode cX12_format 294 = .ok (.iconst 2, 1) := by decide +kernel
theorem dX12_format_295 : decode cX12_format 295 = .ok (.iconst 2, 1) := by decide +kernel
theorem dX12_format_296 : decode cX12_format 296 = .ok (.iastore, 1) := by decide +kernel
theorem dX12_format_297 : decode cX12_format 297 = .ok (.aload_n 0, 1) := by decide +kernel
theorem dX12_format_298 : decode cX12_format 298 = .ok (.getfield 37, 3) := by decide +kernel
