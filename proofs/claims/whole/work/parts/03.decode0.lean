theorem dX0_init_0 : decode cX0_init 0 = .ok (.aload_n 0, 1) := by decide +kernel
theorem dX0_init_1 : decode cX0_init 1 = .ok (.invokespecial 3, 3) := by decide +kernel
theorem dX0_init_4 : decode cX0_init 4 = .ok (.sipush 128, 3) := by decide +kernel
theorem dX0_init_7 : decode cX0_init 7 = .ok (.sipush 512, 3) := by decide +kernel
theorem dX0_init_10 : decode cX0_init 10 = .ok (.iload_n 1, 1) := by decide +kernel
theorem dX0_init_11 : decode cX0_init 11 = .ok (.invokestatic 9, 3) := by decide +kernel
theorem dX0_init_14 : decode cX0_init 14 = .ok (.invokestatic 15, 3) := by decide +kernel
theorem dX0_init_17 : decode cX0_init 17 = .ok (.istore_n 2, 1) := by decide +kernel
theorem dX0_init_18 : decode cX0_init 18 = .ok (.aload_n 0, 1) := by decide +kernel
theorem dX0_init_19 : decode cX0_init 19 = .ok (.new 18, 3) := by decide +kernel
theorem dX0_init_22 : decode cX0_init 22 = .ok (.dup, 1) := by decide +kernel
theorem dX0_init_23 : decode cX0_init 23 = .ok (.iload_n 2, 1) := by decide +kernel
theorem dX0_init_24 : decode cX0_init 24 = .ok (.invokespecial 20, 3) := by decide +kernel
theorem dX0_init_27 : decode cX0_init 27 = .ok (.putfield 23, 3) := by decide +kernel
theorem dX0_init_30 : decode cX0_init 30 = .ok (.aload_n 0, 1) := by decide +kernel
theorem dX0_init_31 : decode cX0_init 31 = .ok (.new 27, 3) := by decide +kernel
theorem dX0_init_34 : decode cX0_init 34 = .ok (.dup, 1) := by decide +kernel
theorem dX0_init_35 : decode cX0_init 35 = .ok (.iload_n 2, 1) := by decide +kernel
theorem dX0_init_36 : decode cX0_init 36 = .ok (.invokespecial 29, 3) := by decide +kernel
theorem dX0_init_39 : decode cX0_init 39 = .ok (.putfield 30, 3) := by decide +kernel
theorem dX0_init_42 : decode cX0_init 42 = .ok (.aload_n 0, 1) := by decide +kernel
theorem dX0_init_43 : decode cX0_init 43 = .ok (.new 34, 3) := by decide +kernel
theorem dX0_init_46 : decode cX0_init 46 = .ok (.dup, 1) := by decide +kernel
theorem dX0_init_47 : decode cX0_init 47 = .ok (.aload_n 0, 1) := by decide +kernel
theorem dX0_init_48 : decode cX0_init 48 = .ok (.getfield 23, 3) := by decide +kernel
theorem dX0_init_51 : decode cX0_init 51 = .ok (.aload_n 0, 1) := by decide +kernel
theorem dX0_init_52 : decode cX0_init 52 = .ok (.getfield 30, 3) := by decide +kernel
theorem dX0_init_55 : decode cX0_init 55 = .ok (.iconst 2, 1) := by decide +kernel
theorem dX0_init_56 : decode cX0_init 56 = .ok (.invokespecial 36, 3) := by decide +kernel
theorem dX0_init_59 : decode cX0_init 59 = .ok (.putfield 39, 3) := by decide +kernel
theorem dX0_init_62 : decode cX0_init 62 = .ok (.aload_n 0, 1) := by decide +kernel
theorem dX0_init_63 : decode cX0_init 63 = .ok (.new 34, 3) := by decide +kernel
theorem dX0_init_66 : decode cX0_init 66 = .ok (.dup, 1) := by decide +kernel
theorem dX0_init_67 : decode cX0_init 67 = .ok (.aload_n 0, 1) := by decide +kernel
theorem dX0_init_68 : decode cX0_init 68 = .ok (.getfield 23, 3) := by decide +kernel
theorem dX0_init_71 : decode cX0_init 71 = .ok (.aload_n 0, 1) := by decide +kernel
theorem dX0_init_72 : decode cX0_init 72 = .ok (.getfield 30, 3) := by decide +kernel
theorem dX0_init_75 : decode cX0_init 75 = .ok (.iconst 3, 1) := by decide +kernel
theorem dX0_init_76 : decode cX0_init 76 = .ok (.invokespecial 36, 3) := by decide +kernel
theorem dX0_init_79 : decode cX0_init 79 = .ok (.putfield 43, 3) := by decide +kernel
theorem dX0_init_82 : decode cX0_init 82 = .ok (.aload_n 0, 1) := by decide +kernel
theorem dX0_init_83 : decode cX0_init 83 = .ok (.new 46, 3) := by decide +kernel
theorem dX0_init_86 : decode cX0_init 86 = .ok (.dup, 1) := by decide +kernel
theorem dX0_init_87 : decode cX0_init 87 = .ok (.aload_n 0, 1) := by decide +kernel
theorem dX0_init_88 : decode cX0_init 88 = .ok (.getfield 23, 3) := by decide +kernel
theorem dX0_init_91 : decode cX0_init 91 = .ok (.aload_n 0, 1) := by decide +kernel
theorem dX0_init_92 : decode cX0_init 92 = .ok (.getfield 30, 3) := by decide +kernel
theorem dX0_init_95 : decode cX0_init 95 = .ok (.aload_n 0, 1) := by decide +kernel
theorem dX0_init_96 : decode cX0_init 96 = .ok (.getfield 39, 3) := by decide +kernel
theorem dX0_init_99 : decode cX0_init 99 = .ok (.invokespecial 48, 3) := by decide +kernel
theorem dX0_init_102 : decode cX0_init 102 = .ok (.putfield 51, 3) := by decide +kernel
theorem dX0_init_105 : decode cX0_init 105 = .ok (.aload_n 0, 1) := by decide +kernel
theorem dX0_init_106 : decode cX0_init 106 = .ok (.new 55, 3) := by decide +kernel
theorem dX0_init_109 : decode cX0_init 109 = .ok (.dup, 1) := by decide +kernel
theorem dX0_init_110 : decode cX0_init 110 = .ok (.aload_n 0, 1) := by decide +kernel
theorem dX0_init_111 : decode cX0_init 111 = .ok (.getfield 23, 3) := by decide +kernel
theorem dX0_init_114 : decode cX0_init 114 = .ok (.aload_n 0, 1) := by decide +kernel
theorem dX0_init_115 : decode cX0_init 115 = .ok (.getfield 51, 3) := by decide +kernel
theorem dX0_init_118 : decode cX0_init 118 = .ok (.invokespecial 57, 3) := by decide +kernel
theorem dX0_init_121 : decode cX0_init 121 = .ok (.putfield 60, 3) := by decide +kernel
theorem dX0_init_124 : decode cX0_init 124 = .ok (.aload_n 0, 1) := by decide +kernel
theorem dX0_init_125 : decode cX0_init 125 = .ok (.new 64, 3) := by decide +kernel
theorem dX0_init_128 : decode cX0_init 128 = .ok (.dup, 1) := by decide +kernel
theorem dX0_init_129 : decode cX0_init 129 = .ok (.aload_n 0, 1) := by decide +kernel
theorem dX0_init_130 : decode cX0_init 130 = .ok (.getfield 30, 3) := by decide +kernel
theorem dX0_init_133 : decode cX0_init 133 = .ok (.aload_n 0, 1) := by decide +kernel
theorem dX0_init_134 : decode cX0_init 134 = .ok (.getfield 39, 3) := by decide +kernel
theorem dX0_init_137 : decode cX0_init 137 = .ok (.aload_n 0, 1) := by decide +kernel
theorem dX0_init_138 : decode cX0_init 138 = .ok (.getfield 43, 3) := by decide +kernel
theorem dX0_init_141 : decode cX0_init 141 = .ok (.aload_n 0, 1) := by decide +kernel
theorem dX0_init_142 : decode cX0_init 142 = .ok (.getfield 51, 3) := by decide +kernel
theorem dX0_init_145 : decode cX0_init 145 = .ok (.invokespecial 66, 3) := by decide +kernel
theorem dX0_init_148 : decode cX0_init 148 = .ok (.putfield 69, 3) := by decide +kernel
theorem dX0_init_151 : decode cX0_init 151 = .ok (.aload_n 0, 1) := by decide +kernel
theorem dX0_init_152 : decode cX0_init 152 = .ok (.new 73, 3) := by decide +kernel
theorem dX0_init_155 : decode cX0_init 155 = .ok (.dup, 1) := by decide +kernel
theorem dX0_init_156 : decode cX0_init 156 = .ok (.aload_n 0, 1) := by decide +kernel
theorem dX0_init_157 : decode cX0_init 157 = .ok (.getfield 23, 3) := by decide +kernel
theorem dX0_init_160 : decode cX0_init 160 = .ok (.aload_n 0, 1) := by decide +kernel
theorem dX0_init_161 : decode cX0_init 161 = .ok (.getfield 30, 3) := by decide +kernel
theorem dX0_init_164 : decode cX0_init 164 = .ok (.aload_n 0, 1) := by decide +kernel
theorem dX0_init_165 : decode cX0_init 165 = .ok (.getfield 39, 3) := by decide +kernel
theorem dX0_init_168 : decode cX0_init 168 = .ok (.aload_n 0, 1) := by decide +kernel
theorem dX0_init_169 : decode cX0_init 169 = .ok (.getfield 43, 3) := by decide +kernel
theorem dX0_init_172 : decode cX0_init 172 = .ok (.aload_n 0, 1) := by decide +kernel
theorem dX0_init_173 : decode cX0_init 173 = .ok (.getfield 51, 3) := by decide +kernel
theorem dX0_init_176 : decode cX0_init 176 = .ok (.aload_n 0, 1) := by decide +kernel
theorem dX0_init_177 : decode cX0_init 177 = .ok (.getfield 60, 3) := by decide +kernel
theorem dX0_init_180 : decode cX0_init 180 = .ok (.aload_n 0, 1) := by decide +kernel
theorem dX0_init_181 : decode cX0_init 181 = .ok (.getfield 69, 3) := by decide +kernel
theorem dX0_init_184 : decode cX0_init 184 = .ok (.invokespecial 75, 3) := by decide +kernel
theorem dX0_init_187 : decode cX0_init 187 = .ok (.putfield 78, 3) := by decide +kernel
theorem dX0_init_190 : decode cX0_init 190 = .ok (.aload_n 0, 1) := by decide +kernel
theorem dX0_init_191 : decode cX0_init 191 = .ok (.new 82, 3) := by decide +kernel
theorem dX0_init_194 : decode cX0_init 194 = .ok (.dup, 1) := by decide +kernel
theorem dX0_init_195 : decode cX0_init 195 = .ok (.invokespecial 84, 3) := by decide +kernel
theorem dX0_init_198 : decode cX0_init 198 = .ok (.putfield 85, 3) := by decide +kernel
theorem dX0_init_201 : decode cX0_init 201 = .ok (.aload_n 0, 1) := by decide +kernel
theorem dX0_init_202 : decode cX0_init 202 = .ok (.iconst 2, 1) := by decide +kernel
theorem dX0_init_203 : decode cX0_init 203 = .ok (.putfield 89, 3) := by decide +kernel
theorem dX0_init_206 : decode cX0_init 206 = .ok (.return_, 1) := by decide +kernel
theorem dX1_init_0 : decode cX1_init 0 = .ok (.aload_n 0, 1) := by decide +kernel
theorem dX1_init_1 : decode cX1_init 1 = .ok (.invokespecial 3, 3) := by decide +kernel
theorem dX1_init_4 : decode cX1_init 4 = .ok (.aload_n 0, 1) := by decide +kernel
theorem dX1_init_5 : decode cX1_init 5 = .ok (.iconst 1, 1) := by decide +kernel
theorem dX1_init_6 : decode cX1_init 6 = .ok (.iload_n 1, 1) := by decide +kernel
theorem dX1_init_7 : decode cX1_init 7 = .ok (.invokestatic 9, 3) := by decide +kernel
theorem dX1_init_10 : decode cX1_init 10 = .ok (.sipush 1024, 3) := by decide +kernel
theorem dX1_init_13 : decode cX1_init 13 = .ok (.imul, 1) := by decide +kernel
theorem dX1_init_14 : decode cX1_init 14 = .ok (.newarray .byte, 2) := by decide +kernel
theorem dX1_init_16 : decode cX1_init 16 = .ok (.putfield 15, 3) := by decide +kernel
theorem dX1_init_19 : decode cX1_init 19 = .ok (.return_, 1) := by decide +kernel
theorem dX2_init_0 : decode cX2_init 0 = .ok (.aload_n 0, 1) := by decide +kernel
theorem dX2_init_1 : decode cX2_init 1 = .ok (.invokespecial 3, 3) := by decide +kernel
theorem dX2_init_4 : decode cX2_init 4 = .ok (.aload_n 0, 1) := by decide +kernel
theorem dX2_init_5 : decode cX2_init 5 = .ok (.iload_n 1, 1) := by decide +kernel
theorem dX2_init_6 : decode cX2_init 6 = .ok (.putfield 9, 3) := by decide +kernel
theorem dX2_init_9 : decode cX2_init 9 = .ok (.return_, 1) := by decide +kernel
theorem dX3_init_0 : decode cX3_init 0 = .ok (.aload_n 0, 1) := by decide +kernel
theorem dX3_init_1 : decode cX3_init 1 = .ok (.invokespecial 3, 3) := by decide +kernel
theorem dX3_init_4 : decode cX3_init 4 = .ok (.aload_n 0, 1) := by decide +kernel
theorem dX3_init_5 : decode cX3_init 5 = .ok (.aload_n 1, 1) := by decide +kernel
theorem dX3_init_6 : decode cX3_init 6 = .ok (.putfield 9, 3) := by decide +kernel
theorem dX3_init_9 : decode cX3_init 9 = .ok (.aload_n 0, 1) := by decide +kernel
theorem dX3_init_10 : decode cX3_init 10 = .ok (.aload_n 2, 1) := by decide +kernel
theorem dX3_init_11 : decode cX3_init 11 = .ok (.putfield 15, 3) := by decide +kernel
theorem dX3_init_14 : decode cX3_init 14 = .ok (.aload_n 0, 1) := by decide +kernel
theorem dX3_init_15 : decode cX3_init 15 = .ok (.iload_n 3, 1) := by decide +kernel
theorem dX3_init_16 : decode cX3_init 16 = .ok (.putfield 19, 3) := by decide +kernel
theorem dX3_init_19 : decode cX3_init 19 = .ok (.aload_n 0, 1) := by decide +kernel
theorem dX3_init_20 : decode cX3_init 20 = .ok (.iload_n 3, 1) := by decide +kernel
theorem dX3_init_21 : decode cX3_init 21 = .ok (.iconst 2, 1) := by decide +kernel
theorem dX3_init_22 : decode cX3_init 22 = .ok (.if_icmp .ne 8, 3) := by decide +kernel
theorem dX3_init_25 : decode cX3_init 25 = .ok (.bipush 12, 2) := by decide +kernel
theorem dX3_init_27 : decode cX3_init 27 = .ok (.goto 5, 3) := by decide +kernel
theorem dX3_init_30 : decode cX3_init 30 = .ok (.bipush 16, 2) := by decide +kernel
theorem dX3_init_32 : decode cX3_init 32 = .ok (.putfield 23, 3) := by decide +kernel
theorem dX3_init_35 : decode cX3_init 35 = .ok (.aload_n 0, 1) := by decide +kernel
theorem dX3_init_36 : decode cX3_init 36 = .ok (.iload_n 3, 1) := by decide +kernel
theorem dX3_init_37 : decode cX3_init 37 = .ok (.iconst 2, 1) := by decide +kernel
theorem dX3_init_38 : decode cX3_init 38 = .ok (.if_icmp .ne 8, 3) := by decide +kernel
theorem dX3_init_41 : decode cX3_init 41 = .ok (.bipush 12, 2) := by decide +kernel
theorem dX3_init_43 : decode cX3_init 43 = .ok (.goto 5, 3) := by decide +kernel
theorem dX3_init_46 : decode cX3_init 46 = .ok (.bipush 14, 2) := by decide +kernel
theorem dX3_init_48 : decode cX3_init 48 = .ok (.putfield 26, 3) := by decide +kernel
theorem dX3_init_51 : decode cX3_init 51 = .ok (.return_, 1) := by decide +kernel
theorem dX4_init_0 : decode cX4_init 0 = .ok (.aload_n 0, 1) := by decide +kernel
theorem dX4_init_1 : decode cX4_init 1 = .ok (.invokespecial 3, 3) := by decide +kernel
theorem dX4_init_4 : decode cX4_init 4 = .ok (.aload_n 0, 1) := by decide +kernel
theorem dX4_init_5 : decode cX4_init 5 = .ok (.aload_n 1, 1) := by decide +kernel
theorem dX4_init_6 : decode cX4_init 6 = .ok (.putfield 9, 3) := by decide +kernel
theorem dX4_init_9 : decode cX4_init 9 = .ok (.aload_n 0, 1) := by decide +kernel
theorem dX4_init_10 : decode cX4_init 10 = .ok (.aload_n 2, 1) := by decide +kernel
theorem dX4_init_11 : decode cX4_init 11 = .ok (.putfield 15, 3) := by decide +kernel
theorem dX4_init_14 : decode cX4_init 14 = .ok (.aload_n 0, 1) := by decide +kernel
theorem dX4_init_15 : decode cX4_init 15 = .ok (.aload_n 3, 1) := by decide +kernel
theorem dX4_init_16 : decode cX4_init 16 = .ok (.putfield 19, 3) := by decide +kernel
theorem dX4_init_19 : decode cX4_init 19 = .ok (.return_, 1) := by decide +kernel
theorem dX5_init_0 : decode cX5_init 0 = .ok (.aload_n 0, 1) := by decide +kernel
theorem dX5_init_1 : decode cX5_init 1 = .ok (.invokespecial 3, 3) := by decide +kernel
theorem dX5_init_4 : decode cX5_init 4 = .ok (.aload_n 0, 1) := by decide +kernel
theorem dX5_init_5 : decode cX5_init 5 = .ok (.sipush 2578, 3) := by decide +kernel
theorem dX5_init_8 : decode cX5_init 8 = .ok (.newarray .int, 2) := by decide +kernel
theorem dX5_init_10 : decode cX5_init 10 = .ok (.putfield 9, 3) := by decide +kernel
theorem dX5_init_13 : decode cX5_init 13 = .ok (.aload_n 0, 1) := by decide +kernel
theorem dX5_init_14 : decode cX5_init 14 = .ok (.aload_n 1, 1) := by decide +kernel
theorem dX5_init_15 : decode cX5_init 15 = .ok (.putfield 15, 3) := by decide +kernel
theorem dX5_init_18 : decode cX5_init 18 = .ok (.aload_n 0, 1) := by decide +kernel
theorem dX5_init_19 : decode cX5_init 19 = .ok (.aload_n 2, 1) := by decide +kernel
theorem dX5_init_20 : decode cX5_init 20 = .ok (.putfield 19, 3) := by decide +kernel
theorem dX5_init_23 : decode cX5_init 23 = .ok (.return_, 1) := by decide +kernel
theorem dX6_init_0 : decode cX6_init 0 = .ok (.aload_n 0, 1) := by decide +kernel
theorem dX6_init_1 : decode cX6_init 1 = .ok (.invokespecial 3, 3) := by decide +kernel
theorem dX6_init_4 : decode cX6_init 4 = .ok (.aload_n 0, 1) := by decide +kernel
theorem dX6_init_5 : decode cX6_init 5 = .ok (.aload_n 1, 1) := by decide +kernel
theorem dX6_init_6 : decode cX6_init 6 = .ok (.putfield 9, 3) := by decide +kernel
theorem dX6_init_9 : decode cX6_init 9 = .ok (.aload_n 0, 1) := by decide +kernel
theorem dX6_init_10 : decode cX6_init 10 = .ok (.aload_n 2, 1) := by decide +kernel
theorem dX6_init_11 : decode cX6_init 11 = .ok (.putfield 15, 3) := by decide +kernel
theorem dX6_init_14 : decode cX6_init 14 = .ok (.aload_n 0, 1) := by decide +kernel
theorem dX6_init_15 : decode cX6_init 15 = .ok (.aload_n 3, 1) := by decide +kernel
theorem dX6_init_16 : decode cX6_init 16 = .ok (.putfield 19, 3) := by decide +kernel
theorem dX6_init_19 : decode cX6_init 19 = .ok (.aload_n 0, 1) := by decide +kernel
theorem dX6_init_20 : decode cX6_init 20 = .ok (.aload 4, 2) := by decide +kernel
theorem dX6_init_22 : decode cX6_init 22 = .ok (.putfield 22, 3) := by decide +kernel
theorem dX6_init_25 : decode cX6_init 25 = .ok (.return_, 1) := by decide +kernel
theorem dX7_init_0 : decode cX7_init 0 = .ok (.aload_n 0, 1) := by decide +kernel
theorem dX7_init_1 : decode cX7_init 1 = .ok (.invokespecial 3, 3) := by decide +kernel
theorem dX7_init_4 : decode cX7_init 4 = .ok (.aload_n 0, 1) := by decide +kernel
theorem dX7_init_5 : decode cX7_init 5 = .ok (.new 9, 3) := by decide +kernel
theorem dX7_init_8 : decode cX7_init 8 = .ok (.dup, 1) := by decide +kernel
theorem dX7_init_9 : decode cX7_init 9 = .ok (.iconst 2, 1) := by decide +kernel
theorem dX7_init_10 : decode cX7_init 10 = .ok (.invokespecial 11, 3) := by decide +kernel
theorem dX7_init_13 : decode cX7_init 13 = .ok (.putfield 14, 3) := by decide +kernel
theorem dX7_init_16 : decode cX7_init 16 = .ok (.aload_n 0, 1) := by decide +kernel
theorem dX7_init_17 : decode cX7_init 17 = .ok (.sipush 2065, 3) := by decide +kernel
theorem dX7_init_20 : decode cX7_init 20 = .ok (.newarray .int, 2) := by decide +kernel
theorem dX7_init_22 : decode cX7_init 22 = .ok (.putfield 20, 3) := by decide +kernel
theorem dX7_init_25 : decode cX7_init 25 = .ok (.aload_n 0, 1) := by decide +kernel
theorem dX7_init_26 : decode cX7_init 26 = .ok (.sipush 2065, 3) := by decide +kernel
theorem dX7_init_29 : decode cX7_init 29 = .ok (.newarray .int, 2) := by decide +kernel
theorem dX7_init_31 : decode cX7_init 31 = .ok (.putfield 24, 3) := by decide +kernel
theorem dX7_init_34 : decode cX7_init 34 = .ok (.aload_n 0, 1) := by decide +kernel
theorem dX7_init_35 : decode cX7_init 35 = .ok (.aload_n 1, 1) := by decide +kernel
theorem dX7_init_36 : decode cX7_init 36 = .ok (.putfield 27, 3) := by decide +kernel
theorem dX7_init_39 : decode cX7_init 39 = .ok (.aload_n 0, 1) := by decide +kernel
theorem dX7_init_40 : decode cX7_init 40 = .ok (.aload_n 2, 1) := by decide +kernel
theorem dX7_init_41 : decode cX7_init 41 = .ok (.putfield 30, 3) := by decide +kernel
theorem dX7_init_44 : decode cX7_init 44 = .ok (.aload_n 0, 1) := by decide +kernel
theorem dX7_init_45 : decode cX7_init 45 = .ok (.aload_n 3, 1) := by decide +kernel
theorem dX7_init_46 : decode cX7_init 46 = .ok (.putfield 34, 3) := by decide +kernel
theorem dX7_init_49 : decode cX7_init 49 = .ok (.aload_n 0, 1) := by decide +kernel
theorem dX7_init_50 : decode cX7_init 50 = .ok (.aload 4, 2) := by decide +kernel
theorem dX7_init_52 : decode cX7_init 52 = .ok (.putfield 38, 3) := by decide +kernel
theorem dX7_init_55 : decode cX7_init 55 = .ok (.aload_n 0, 1) := by decide +kernel
theorem dX7_init_56 : decode cX7_init 56 = .ok (.aload 5, 2) := by decide +kernel
theorem dX7_init_58 : decode cX7_init 58 = .ok (.putfield 41, 3) := by decide +kernel
theorem dX7_init_61 : decode cX7_init 61 = .ok (.aload_n 0, 1) := by decide +kernel
theorem dX7_init_62 : decode cX7_init 62 = .ok (.aload 6, 2) := by decide +kernel
theorem dX7_init_64 : decode cX7_init 64 = .ok (.putfield 45, 3) := by decide +kernel
theorem dX7_init_67 : decode cX7_init 67 = .ok (.aload_n 0, 1) := by decide +kernel
theorem dX7_init_68 : decode cX7_init 68 = .ok (.aload 7, 2) := by decide +kernel
theorem dX7_init_70 : decode cX7_init 70 = .ok (.putfield 49, 3) := by decide +kernel
theorem dX7_init_73 : decode cX7_init 73 = .ok (.aload_n 0, 1) := by decide +kernel
theorem dX7_init_74 : decode cX7_init 74 = .ok (.iconst 1, 1) := by decide +kernel
theorem dX7_init_75 : decode cX7_init 75 = .ok (.aload_n 2, 1) := by decide +kernel
theorem dX7_init_76 : decode cX7_init 76 = .ok (.invokevirtual 53, 3) := by decide +kernel
theorem dX7_init_79 : decode cX7_init 79 = .ok (.invokestatic 59, 3) := by decide +kernel
theorem dX7_init_82 : decode cX7_init 82 = .ok (.newarray .byte, 2) := by decide +kernel
theorem dX7_init_84 : decode cX7_init 84 = .ok (.putfield 65, 3) := by decide +kernel
theorem dX7_init_87 : decode cX7_init 87 = .ok (.return_, 1) := by decide +kernel
theorem dX2_blocks_0 : decode cX2_blocks 0 = .ok (.aload_n 0, 1) := by decide +kernel
theorem dX2_blocks_1 : decode cX2_blocks 1 = .ok (.getfield 9, 3) := by decide +kernel
theorem dX2_blocks_4 : decode cX2_blocks 4 = .ok (.ireturn, 1) := by decide +kernel
theorem dX8_init_0 : decode cX8_init 0 = .ok (.aload_n 0, 1) := by decide +kernel
theorem dX8_init_1 : decode cX8_init 1 = .ok (.invokespecial 3, 3) := by decide +kernel
theorem dX8_init_4 : decode cX8_init 4 = .ok (.aload_n 0, 1) := by decide +kernel
theorem dX8_init_5 : decode cX8_init 5 = .ok (.sipush 4096, 3) := by decide +kernel
theorem dX8_init_8 : decode cX8_init 8 = .ok (.newarray .byte, 2) := by decide +kernel
theorem dX8_init_10 : decode cX8_init 10 = .ok (.putfield 9, 3) := by decide +kernel
theorem dX8_init_13 : decode cX8_init 13 = .ok (.aload_n 0, 1) := by decide +kernel
theorem dX8_init_14 : decode cX8_init 14 = .ok (.bipush 20, 2) := by decide +kernel
theorem dX8_init_16 : decode cX8_init 16 = .ok (.newarray .byte, 2) := by decide +kernel
theorem dX8_init_18 : decode cX8_init 18 = .ok (.putfield 15, 3) := by decide +kernel
theorem dX8_init_21 : decode cX8_init 21 = .ok (.return_, 1) := by decide +kernel
theorem dX9_init_0 : decode cX9_init 0 = .ok (.aload_n 0, 1) := by decide +kernel
theorem dX9_init_1 : decode cX9_init 1 = .ok (.invokespecial 1, 3) := by decide +kernel
theorem dX9_init_4 : decode cX9_init 4 = .ok (.return_, 1) := by decide +kernel
theorem dX0_feed_0 : decode cX0_feed 0 = .ok (.aload_n 0, 1) := by decide +kernel
theorem dX0_feed_1 : decode cX0_feed 1 = .ok (.getfield 85, 3) := by decide +kernel
theorem dX0_feed_4 : decode cX0_feed 4 = .ok (.iconst 0, 1) := by decide +kernel
theorem dX0_feed_5 : decode cX0_feed 5 = .ok (.iload_n 1, 1) := by decide +kernel
theorem dX0_feed_6 : decode cX0_feed 6 = .ok (.invokevirtual 93, 3) := by decide +kernel
theorem dX0_feed_9 : decode cX0_feed 9 = .ok (.aload_n 0, 1) := by decide +kernel
theorem dX0_feed_10 : decode cX0_feed 10 = .ok (.getfield 85, 3) := by decide +kernel
theorem dX0_feed_13 : decode cX0_feed 13 = .ok (.iconst 1, 1) := by decide +kernel
theorem dX0_feed_14 : decode cX0_feed 14 = .ok (.iload_n 2, 1) := by decide +kernel
theorem dX0_feed_15 : decode cX0_feed 15 = .ok (.invokevirtual 93, 3) := by decide +kernel
theorem dX0_feed_18 : decode cX0_feed 18 = .ok (.aload_n 0, 1) := by decide +kernel
theorem dX0_feed_19 : decode cX0_feed 19 = .ok (.getfield 85, 3) := by decide +kernel
theorem dX0_feed_22 : decode cX0_feed 22 = .ok (.iconst 2, 1) := by decide +kernel
theorem dX0_feed_23 : decode cX0_feed 23 = .ok (.iload_n 3, 1) := by decide +kernel
theorem dX0_feed_24 : decode cX0_feed 24 = .ok (.invokevirtual 93, 3) := by decide +kernel
theorem dX0_feed_27 : decode cX0_feed 27 = .ok (.aload_n 0, 1) := by decide +kernel
theorem dX0_feed_28 : decode cX0_feed 28 = .ok (.getfield 85, 3) := by decide +kernel
theorem dX0_feed_31 : decode cX0_feed 31 = .ok (.iconst 3, 1) := by decide +kernel
theorem dX0_feed_32 : decode cX0_feed 32 = .ok (.iload 4, 2) := by decide +kernel
theorem dX0_feed_34 : decode cX0_feed 34 = .ok (.invokevirtual 93, 3) := by decide +kernel
theorem dX0_feed_37 : decode cX0_feed 37 = .ok (.aload_n 0, 1) := by decide +kernel
theorem dX0_feed_38 : decode cX0_feed 38 = .ok (.getfield 85, 3) := by decide +kernel
theorem dX0_feed_41 : decode cX0_feed 41 = .ok (.iconst 4, 1) := by decide +kernel
theorem dX0_feed_42 : decode cX0_feed 42 = .ok (.iload 5, 2) := by decide +kernel
theorem dX0_feed_44 : decode cX0_feed 44 = .ok (.invokevirtual 93, 3) := by decide +kernel
theorem dX0_feed_47 : decode cX0_feed 47 = .ok (.return_, 1) := by decide +kernel
theorem dX8_prepare_0 : decode cX8_prepare 0 = .ok (.iconst 0, 1) := by decide +kernel
theorem dX8_prepare_1 : decode cX8_prepare 1 = .ok (.istore_n 3, 1) := by decide +kernel
theorem dX8_prepare_2 : decode cX8_prepare 2 = .ok (.iload_n 3, 1) := by decide +kernel
theorem dX8_prepare_3 : decode cX8_prepare 3 = .ok (.iconst 4, 1) := by decide +kernel
theorem dX8_prepare_4 : decode cX8_prepare 4 = .ok (.if_icmp .ge 48, 3) := by decide +kernel
theorem dX8_prepare_7 : decode cX8_prepare 7 = .ok (.iconst 4, 1) := by decide +kernel
theorem dX8_prepare_8 : decode cX8_prepare 8 = .ok (.iload_n 1, 1) := by decide +kernel
theorem dX8_prepare_9 : decode cX8_prepare 9 = .ok (.imul, 1) := by decide +kernel
theorem dX8_prepare_10 : decode cX8_prepare 10 = .ok (.iload_n 3, 1) := by decide +kernel
theorem dX8_prepare_11 : decode cX8_prepare 11 = .ok (.iadd, 1) := by decide +kernel
theorem dX8_prepare_12 : decode cX8_prepare 12 = .ok (.istore 4, 2) := by decide +kernel
theorem dX8_prepare_14 : decode cX8_prepare 14 = .ok (.iload 4, 2) := by decide +kernel
theorem dX8_prepare_16 : decode cX8_prepare 16 = .ok (.ifCond .lt 30, 3) := by decide +kernel
theorem dX8_prepare_19 : decode cX8_prepare 19 = .ok (.iload 4, 2) := by decide +kernel
theorem dX8_prepare_21 : decode cX8_prepare 21 = .ok (.aload_n 0, 1) := by decide +kernel
theorem dX8_prepare_22 : decode cX8_prepare 22 = .ok (.getfield 15, 3) := by decide +kernel
theorem dX8_prepare_25 : decode cX8_prepare 25 = .ok (.arraylength, 1) := by decide +kernel
theorem dX8_prepare_26 : decode cX8_prepare 26 = .ok (.if_icmp .ge 20, 3) := by decide +kernel
theorem dX8_prepare_29 : decode cX8_prepare 29 = .ok (.aload_n 0, 1) := by decide +kernel
theorem dX8_prepare_30 : decode cX8_prepare 30 = .ok (.getfield 15, 3) := by decide +kernel
theorem dX8_prepare_33 : decode cX8_prepare 33 = .ok (.iload 4, 2) := by decide +kernel
theorem dX8_prepare_35 : decode cX8_prepare 35 = .ok (.iload_n 2, 1) := by decide +kernel
theorem dX8_prepare_36 : decode cX8_prepare 36 = .ok (.bipush 24, 2) := by decide +kernel
theorem dX8_prepare_38 : decode cX8_prepare 38 = .ok (.bipush 8, 2) := by decide +kernel
theorem dX8_prepare_40 : decode cX8_prepare 40 = .ok (.iload_n 3, 1) := by decide +kernel
theorem dX8_prepare_41 : decode cX8_prepare 41 = .ok (.imul, 1) := by decide +kernel
theorem dX8_prepare_42 : decode cX8_prepare 42 = .ok (.isub, 1) := by decide +kernel
theorem dX8_prepare_43 : decode cX8_prepare 43 = .ok (.ishr, 1) := by decide +kernel
theorem dX8_prepare_44 : decode cX8_prepare 44 = .ok (.i2b, 1) := by decide +kernel
theorem dX8_prepare_45 : decode cX8_prepare 45 = .ok (.bastore, 1) := by decide +kernel
theorem dX8_prepare_46 : decode cX8_prepare 46 = .ok (.iinc 3 1, 3) := by decide +kernel
theorem dX8_prepare_49 : decode cX8_prepare 49 = .ok (.goto (-47), 3) := by decide +kernel
theorem dX8_prepare_52 : decode cX8_prepare 52 = .ok (.return_, 1) := by decide +kernel
theorem dX0_end_0 : decode cX0_end 0 = .ok (.aload_n 0, 1) := by decide +kernel
theorem dX0_end_1 : decode cX0_end 1 = .ok (.getfield 85, 3) := by decide +kernel
theorem dX0_end_4 : decode cX0_end 4 = .ok (.iload_n 1, 1) := by decide +kernel
theorem dX0_end_5 : decode cX0_end 5 = .ok (.invokevirtual 97, 3) := by decide +kernel
theorem dX0_end_8 : decode cX0_end 8 = .ok (.ireturn, 1) := by decide +kernel
theorem dX8_bring_0 : decode cX8_bring 0 = .ok (.iload_n 1, 1) := by decide +kernel
theorem dX8_bring_1 : decode cX8_bring 1 = .ok (.ifCond .lt 26, 3) := by decide +kernel
theorem dX8_bring_4 : decode cX8_bring 4 = .ok (.iload_n 1, 1) := by decide +kernel
theorem dX8_bring_5 : decode cX8_bring 5 = .ok (.aload_n 0, 1) := by decide +kernel
theorem dX8_bring_6 : decode cX8_bring 6 = .ok (.getfield 15, 3) := by decide +kernel
theorem dX8_bring_9 : decode cX8_bring 9 = .ok (.arraylength, 1) := by decide +kernel
theorem dX8_bring_10 : decode cX8_bring 10 = .ok (.if_icmp .gt 17, 3) := by decide +kernel
theorem dX8_bring_13 : decode cX8_bring 13 = .ok (.iload_n 1, 1) := by decide +kernel
theorem dX8_bring_14 : decode cX8_bring 14 = .ok (.aload_n 0, 1) := by decide +kernel
theorem dX8_bring_15 : decode cX8_bring 15 = .ok (.getfield 9, 3) := by decide +kernel
theorem dX8_bring_18 : decode cX8_bring 18 = .ok (.arraylength, 1) := by decide +kernel
theorem dX8_bring_19 : decode cX8_bring 19 = .ok (.aload_n 0, 1) := by decide +kernel
theorem dX8_bring_20 : decode cX8_bring 20 = .ok (.getfield 18, 3) := by decide +kernel
theorem dX8_bring_23 : decode cX8_bring 23 = .ok (.isub, 1) := by decide +kernel
theorem dX8_bring_24 : decode cX8_bring 24 = .ok (.if_icmp .le 5, 3) := by decide +kernel
theorem dX8_bring_27 : decode cX8_bring 27 = .ok (.iconst (-1), 1) := by decide +kernel
theorem dX8_bring_28 : decode cX8_bring 28 = .ok (.ireturn, 1) := by decide +kernel
theorem dX8_bring_29 : decode cX8_bring 29 = .ok (.aload_n 0, 1) := by decide +kernel
theorem dX8_bring_30 : decode cX8_bring 30 = .ok (.getfield 15, 3) := by decide +kernel
theorem dX8_bring_33 : decode cX8_bring 33 = .ok (.iconst 0, 1) := by decide +kernel
theorem dX8_bring_34 : decode cX8_bring 34 = .ok (.aload_n 0, 1) := by decide +kernel
theorem dX8_bring_35 : decode cX8_bring 35 = .ok (.getfield 9, 3) := by decide +kernel
theorem dX8_bring_38 : decode cX8_bring 38 = .ok (.aload_n 0, 1) := by decide +kernel
theorem dX8_bring_39 : decode cX8_bring 39 = .ok (.getfield 18, 3) := by decide +kernel
theorem dX8_bring_42 : decode cX8_bring 42 = .ok (.iload_n 1, 1) := by decide +kernel
theorem dX8_bring_43 : decode cX8_bring 43 = .ok (.invokestatic 22, 3) := by decide +kernel
theorem dX8_bring_46 : decode cX8_bring 46 = .ok (.aload_n 0, 1) := by decide +kernel
theorem dX8_bring_47 : decode cX8_bring 47 = .ok (.getfield 15, 3) := by decide +kernel
theorem dX8_bring_50 : decode cX8_bring 50 = .ok (.iconst 0, 1) := by decide +kernel
theorem dX8_bring_51 : decode cX8_bring 51 = .ok (.invokestatic 28, 3) := by decide +kernel
theorem dX8_bring_54 : decode cX8_bring 54 = .ok (.aload_n 0, 1) := by decide +kernel
theorem dX8_bring_55 : decode cX8_bring 55 = .ok (.dup, 1) := by decide +kernel
theorem dX8_bring_56 : decode cX8_bring 56 = .ok (.getfield 18, 3) := by decide +kernel
theorem dX8_bring_59 : decode cX8_bring 59 = .ok (.iload_n 1, 1) := by decide +kernel
theorem dX8_bring_60 : decode cX8_bring 60 = .ok (.iadd, 1) := by decide +kernel
theorem dX8_bring_61 : decode cX8_bring 61 = .ok (.putfield 18, 3) := by decide +kernel
theorem dX8_bring_64 : decode cX8_bring 64 = .ok (.aload_n 0, 1) := by decide +kernel
theorem dX8_bring_65 : decode cX8_bring 65 = .ok (.getfield 18, 3) := by decide +kernel
theorem dX8_bring_68 : decode cX8_bring 68 = .ok (.ireturn, 1) := by decide +kernel
theorem dX0_byteAt_0 : decode cX0_byteAt 0 = .ok (.iload_n 1, 1) := by decide +kernel
theorem dX0_byteAt_1 : decode cX0_byteAt 1 = .ok (.ifCond .lt 14, 3) := by decide +kernel
theorem dX0_byteAt_4 : decode cX0_byteAt 4 = .ok (.iload_n 1, 1) := by decide +kernel
theorem dX0_byteAt_5 : decode cX0_byteAt 5 = .ok (.aload_n 0, 1) := by decide +kernel
theorem dX0_byteAt_6 : decode cX0_byteAt 6 = .ok (.getfield 23, 3) := by decide +kernel
theorem dX0_byteAt_9 : decode cX0_byteAt 9 = .ok (.invokevirtual 112, 3) := by decide +kernel
theorem dX0_byteAt_12 : decode cX0_byteAt 12 = .ok (.if_icmp .lt 5, 3) := by decide +kernel
theorem dX0_byteAt_15 : decode cX0_byteAt 15 = .ok (.iconst (-1), 1) := by decide +kernel
theorem dX0_byteAt_16 : decode cX0_byteAt 16 = .ok (.ireturn, 1) := by decide +kernel
theorem dX0_byteAt_17 : decode cX0_byteAt 17 = .ok (.iload_n 1, 1) := by decide +kernel
theorem dX0_byteAt_18 : decode cX0_byteAt 18 = .ok (.sipush 1024, 3) := by decide +kernel
theorem dX0_byteAt_21 : decode cX0_byteAt 21 = .ok (.idiv, 1) := by decide +kernel
theorem dX0_byteAt_22 : decode cX0_byteAt 22 = .ok (.istore_n 2, 1) := by decide +kernel
theorem dX0_byteAt_23 : decode cX0_byteAt 23 = .ok (.aload_n 0, 1) := by decide +kernel
theorem dX0_byteAt_24 : decode cX0_byteAt 24 = .ok (.getfield 142, 3) := by decide +kernel
theorem dX0_byteAt_27 : decode cX0_byteAt 27 = .ok (.ifCond .eq 22, 3) := by decide +kernel
theorem dX0_byteAt_30 : decode cX0_byteAt 30 = .ok (.iload_n 2, 1) := by decide +kernel
theorem dX0_byteAt_31 : decode cX0_byteAt 31 = .ok (.ifCond .le 18, 3) := by decide +kernel
theorem dX0_byteAt_34 : decode cX0_byteAt 34 = .ok (.aload_n 0, 1) := by decide +kernel
theorem dX0_byteAt_35 : decode cX0_byteAt 35 = .ok (.getfield 39, 3) := by decide +kernel
theorem dX0_byteAt_38 : decode cX0_byteAt 38 = .ok (.iload_n 2, 1) := by decide +kernel
theorem dX0_byteAt_39 : decode cX0_byteAt 39 = .ok (.invokevirtual 149, 3) := by decide +kernel
theorem dX0_byteAt_42 : decode cX0_byteAt 42 = .ok (.ifCond .ne 7, 3) := by decide +kernel
theorem dX0_byteAt_45 : decode cX0_byteAt 45 = .ok (.iconst 1, 1) := by decide +kernel
theorem dX0_byteAt_46 : decode cX0_byteAt 46 = .ok (.goto 4, 3) := by decide +kernel
theorem dX0_byteAt_49 : decode cX0_byteAt 49 = .ok (.iconst 0, 1) := by decide +kernel
theorem dX0_byteAt_50 : decode cX0_byteAt 50 = .ok (.istore_n 3, 1) := by decide +kernel
theorem dX0_byteAt_51 : decode cX0_byteAt 51 = .ok (.iload_n 3, 1) := by decide +kernel
theorem dX0_byteAt_52 : decode cX0_byteAt 52 = .ok (.ifCond .eq 7, 3) := by decide +kernel
theorem dX0_byteAt_55 : decode cX0_byteAt 55 = .ok (.iconst (-1), 1) := by decide +kernel
theorem dX0_byteAt_56 : decode cX0_byteAt 56 = .ok (.goto 11, 3) := by decide +kernel
theorem dX0_byteAt_59 : decode cX0_byteAt 59 = .ok (.aload_n 0, 1) := by decide +kernel
theorem dX0_byteAt_60 : decode cX0_byteAt 60 = .ok (.getfield 23, 3) := by decide +kernel
theorem dX0_byteAt_63 : decode cX0_byteAt 63 = .ok (.iload_n 1, 1) := by decide +kernel
theorem dX0_byteAt_64 : decode cX0_byteAt 64 = .ok (.invokevirtual 153, 3) := by decide +kernel
theorem dX0_byteAt_67 : decode cX0_byteAt 67 = .ok (.ireturn, 1) := by decide +kernel
theorem dX1_length_0 : decode cX1_length 0 = .ok (.aload_n 0, 1) := by decide +kernel
theorem dX1_length_1 : decode cX1_length 1 = .ok (.getfield 15, 3) := by decide +kernel
theorem dX1_length_4 : decode cX1_length 4 = .ok (.arraylength, 1) := by decide +kernel
theorem dX1_length_5 : decode cX1_length 5 = .ok (.ireturn, 1) := by decide +kernel
theorem dX3_isUsed_0 : decode cX3_isUsed 0 = .ok (.aload_n 0, 1) := by decide +kernel
theorem dX3_isUsed_1 : decode cX3_isUsed 1 = .ok (.getfield 42, 3) := by decide +kernel
theorem dX3_isUsed_4 : decode cX3_isUsed 4 = .ok (.iconst 1, 1) := by decide +kernel
theorem dX3_isUsed_5 : decode cX3_isUsed 5 = .ok (.if_icmp .lt 8, 3) := by decide +kernel
theorem dX3_isUsed_8 : decode cX3_isUsed 8 = .ok (.iload_n 1, 1) := by decide +kernel
theorem dX3_isUsed_9 : decode cX3_isUsed 9 = .ok (.iconst 1, 1) := by decide +kernel
theorem dX3_isUsed_10 : decode cX3_isUsed 10 = .ok (.if_icmp .ge 5, 3) := by decide +kernel
theorem dX3_isUsed_13 : decode cX3_isUsed 13 = .ok (.iconst 1, 1) := by decide +kernel
theorem dX3_isUsed_14 : decode cX3_isUsed 14 = .ok (.ireturn, 1) := by decide +kernel
theorem dX3_isUsed_15 : decode cX3_isUsed 15 = .ok (.iload_n 1, 1) := by decide +kernel
theorem dX3_isUsed_16 : decode cX3_isUsed 16 = .ok (.iconst 1, 1) := by decide +kernel
theorem dX3_isUsed_17 : decode cX3_isUsed 17 = .ok (.isub, 1) := by decide +kernel
theorem dX3_isUsed_18 : decode cX3_isUsed 18 = .ok (.aload_n 0, 1) := by decide +kernel
theorem dX3_isUsed_19 : decode cX3_isUsed 19 = .ok (.getfield 42, 3) := by decide +kernel
theorem dX3_isUsed_22 : decode cX3_isUsed 22 = .ok (.irem, 1) := by decide +kernel
theorem dX3_isUsed_23 : decode cX3_isUsed 23 = .ok (.istore_n 2, 1) := by decide +kernel
theorem dX3_isUsed_24 : decode cX3_isUsed 24 = .ok (.aload_n 0, 1) := by decide +kernel
theorem dX3_isUsed_25 : decode cX3_isUsed 25 = .ok (.getfield 9, 3) := by decide +kernel
theorem dX3_isUsed_28 : decode cX3_isUsed 28 = .ok (.aload_n 0, 1) := by decide +kernel
theorem dX3_isUsed_29 : decode cX3_isUsed 29 = .ok (.getfield 15, 3) := by decide +kernel
theorem dX3_isUsed_32 : decode cX3_isUsed 32 = .ok (.iload_n 1, 1) := by decide +kernel
theorem dX3_isUsed_33 : decode cX3_isUsed 33 = .ok (.iconst 1, 1) := by decide +kernel
theorem dX3_isUsed_34 : decode cX3_isUsed 34 = .ok (.isub, 1) := by decide +kernel
theorem dX3_isUsed_35 : decode cX3_isUsed 35 = .ok (.aload_n 0, 1) := by decide +kernel
theorem dX3_isUsed_36 : decode cX3_isUsed 36 = .ok (.getfield 42, 3) := by decide +kernel
theorem dX3_isUsed_39 : decode cX3_isUsed 39 = .ok (.idiv, 1) := by decide +kernel
theorem dX3_isUsed_40 : decode cX3_isUsed 40 = .ok (.aload_n 0, 1) := by decide +kernel
theorem dX3_isUsed_41 : decode cX3_isUsed 41 = .ok (.getfield 19, 3) := by decide +kernel
theorem dX3_isUsed_44 : decode cX3_isUsed 44 = .ok (.invokevirtual 51, 3) := by decide +kernel
theorem dX3_isUsed_47 : decode cX3_isUsed 47 = .ok (.iload_n 2, 1) := by decide +kernel
theorem dX3_isUsed_48 : decode cX3_isUsed 48 = .ok (.bipush 8, 2) := by decide +kernel
theorem dX3_isUsed_50 : decode cX3_isUsed 50 = .ok (.idiv, 1) := by decide +kernel
theorem dX3_isUsed_51 : decode cX3_isUsed 51 = .ok (.iadd, 1) := by decide +kernel
theorem dX3_isUsed_52 : decode cX3_isUsed 52 = .ok (.invokevirtual 64, 3) := by decide +kernel
theorem dX3_isUsed_55 : decode cX3_isUsed 55 = .ok (.iload_n 2, 1) := by decide +kernel
theorem dX3_isUsed_56 : decode cX3_isUsed 56 = .ok (.bipush 8, 2) := by decide +kernel
theorem dX3_isUsed_58 : decode cX3_isUsed 58 = .ok (.irem, 1) := by decide +kernel
theorem dX3_isUsed_59 : decode cX3_isUsed 59 = .ok (.ishr, 1) := by decide +kernel
theorem dX3_isUsed_60 : decode cX3_isUsed 60 = .ok (.iconst 1, 1) := by decide +kernel
theorem dX3_isUsed_61 : decode cX3_isUsed 61 = .ok (.iand, 1) := by decide +kernel
theorem dX3_isUsed_62 : decode cX3_isUsed 62 = .ok (.iconst 1, 1) := by decide +kernel
theorem dX3_isUsed_63 : decode cX3_isUsed 63 = .ok (.if_icmp .ne 7, 3) := by decide +kernel
theorem dX3_isUsed_66 : decode cX3_isUsed 66 = .ok (.iconst 1, 1) := by decide +kernel
theorem dX3_isUsed_67 : decode cX3_isUsed 67 = .ok (.goto 4, 3) := by decide +kernel
theorem dX3_isUsed_70 : decode cX3_isUsed 70 = .ok (.iconst 0, 1) := by decide +kernel
theorem dX3_isUsed_71 : decode cX3_isUsed 71 = .ok (.ireturn, 1) := by decide +kernel
theorem dX2_partAt_0 : decode cX2_partAt 0 = .ok (.iconst 1, 1) := by decide +kernel
theorem dX2_partAt_1 : decode cX2_partAt 1 = .ok (.iload_n 1, 1) := by decide +kernel
theorem dX2_partAt_2 : decode cX2_partAt 2 = .ok (.aload_n 0, 1) := by decide +kernel
theorem dX2_partAt_3 : decode cX2_partAt 3 = .ok (.getfield 15, 3) := by decide +kernel
theorem dX2_partAt_6 : decode cX2_partAt 6 = .ok (.imul, 1) := by decide +kernel
theorem dX2_partAt_7 : decode cX2_partAt 7 = .ok (.iadd, 1) := by decide +kernel
theorem dX2_partAt_8 : decode cX2_partAt 8 = .ok (.iload_n 2, 1) := by decide +kernel
theorem dX2_partAt_9 : decode cX2_partAt 9 = .ok (.iadd, 1) := by decide +kernel
theorem dX2_partAt_10 : decode cX2_partAt 10 = .ok (.sipush 1024, 3) := by decide +kernel
theorem dX2_partAt_13 : decode cX2_partAt 13 = .ok (.imul, 1) := by decide +kernel
theorem dX2_partAt_14 : decode cX2_partAt 14 = .ok (.ireturn, 1) := by decide +kernel
theorem dX1_get_0 : decode cX1_get 0 = .ok (.iload_n 1, 1) := by decide +kernel
theorem dX1_get_1 : decode cX1_get 1 = .ok (.ifCond .lt 25, 3) := by decide +kernel
theorem dX1_get_4 : decode cX1_get 4 = .ok (.iload_n 1, 1) := by decide +kernel
theorem dX1_get_5 : decode cX1_get 5 = .ok (.aload_n 0, 1) := by decide +kernel
theorem dX1_get_6 : decode cX1_get 6 = .ok (.getfield 15, 3) := by decide +kernel
theorem dX1_get_9 : decode cX1_get 9 = .ok (.arraylength, 1) := by decide +kernel
theorem dX1_get_10 : decode cX1_get 10 = .ok (.if_icmp .ge 16, 3) := by decide +kernel
theorem dX1_get_13 : decode cX1_get 13 = .ok (.aload_n 0, 1) := by decide +kernel
theorem dX1_get_14 : decode cX1_get 14 = .ok (.getfield 15, 3) := by decide +kernel
theorem dX1_get_17 : decode cX1_get 17 = .ok (.iload_n 1, 1) := by decide +kernel
theorem dX1_get_18 : decode cX1_get 18 = .ok (.baload, 1) := by decide +kernel
theorem dX1_get_19 : decode cX1_get 19 = .ok (.sipush 255, 3) := by decide +kernel
theorem dX1_get_22 : decode cX1_get 22 = .ok (.iand, 1) := by decide +kernel
theorem dX1_get_23 : decode cX1_get 23 = .ok (.goto 4, 3) := by decide +kernel
theorem dX1_get_26 : decode cX1_get 26 = .ok (.iconst 0, 1) := by decide +kernel
theorem dX1_get_27 : decode cX1_get 27 = .ok (.ireturn, 1) := by decide +kernel
theorem dX0_fault_0 : decode cX0_fault 0 = .ok (.aload_n 0, 1) := by decide +kernel
theorem dX0_fault_1 : decode cX0_fault 1 = .ok (.getfield 142, 3) := by decide +kernel
theorem dX0_fault_4 : decode cX0_fault 4 = .ok (.ifCond .ne 5, 3) := by decide +kernel
theorem dX0_fault_7 : decode cX0_fault 7 = .ok (.iconst (-1), 1) := by decide +kernel
theorem dX0_fault_8 : decode cX0_fault 8 = .ok (.ireturn, 1) := by decide +kernel
theorem dX0_fault_9 : decode cX0_fault 9 = .ok (.aload_n 0, 1) := by decide +kernel
theorem dX0_fault_10 : decode cX0_fault 10 = .ok (.getfield 78, 3) := by decide +kernel
theorem dX0_fault_13 : decode cX0_fault 13 = .ok (.aload_n 0, 1) := by decide +kernel
theorem dX0_fault_14 : decode cX0_fault 14 = .ok (.getfield 89, 3) := by decide +kernel
theorem dX0_fault_17 : decode cX0_fault 17 = .ok (.invokevirtual 156, 3) := by decide +kernel
theorem dX0_fault_20 : decode cX0_fault 20 = .ok (.ifCond .eq 7, 3) := by decide +kernel
theorem dX0_fault_23 : decode cX0_fault 23 = .ok (.iconst 0, 1) := by decide +kernel
theorem dX0_fault_24 : decode cX0_fault 24 = .ok (.goto 4, 3) := by decide +kernel
theorem dX0_fault_27 : decode cX0_fault 27 = .ok (.iconst 1, 1) := by decide +kernel
theorem dX0_fault_28 : decode cX0_fault 28 = .ok (.ireturn, 1) := by decide +kernel
theorem dX7_allHolds_0 : decode cX7_allHolds 0 = .ok (.aload_n 0, 1) := by decide +kernel
theorem dX7_allHolds_1 : decode cX7_allHolds 1 = .ok (.invokevirtual 69, 3) := by decide +kernel
theorem dX7_allHolds_4 : decode cX7_allHolds 4 = .ok (.aload_n 0, 1) := by decide +kernel
theorem dX7_allHolds_5 : decode cX7_allHolds 5 = .ok (.getfield 20, 3) := by decide +kernel
theorem dX7_allHolds_8 : decode cX7_allHolds 8 = .ok (.iconst 0, 1) := by decide +kernel
theorem dX7_allHolds_9 : decode cX7_allHolds 9 = .ok (.invokestatic 72, 3) := by decide +kernel
theorem dX7_allHolds_12 : decode cX7_allHolds 12 = .ok (.aload_n 0, 1) := by decide +kernel
theorem dX7_allHolds_13 : decode cX7_allHolds 13 = .ok (.getfield 24, 3) := by decide +kernel
theorem dX7_allHolds_16 : decode cX7_allHolds 16 = .ok (.iconst 0, 1) := by decide +kernel
theorem dX7_allHolds_17 : decode cX7_allHolds 17 = .ok (.invokestatic 72, 3) := by decide +kernel
theorem dX7_allHolds_20 : decode cX7_allHolds 20 = .ok (.aload_n 0, 1) := by decide +kernel
theorem dX7_allHolds_21 : decode cX7_allHolds 21 = .ok (.invokevirtual 78, 3) := by decide +kernel
theorem dX7_allHolds_24 : decode cX7_allHolds 24 = .ok (.ifCond .eq 46, 3) := by decide +kernel
theorem dX7_allHolds_27 : decode cX7_allHolds 27 = .ok (.aload_n 0, 1) := by decide +kernel
theorem dX7_allHolds_28 : decode cX7_allHolds 28 = .ok (.invokevirtual 82, 3) := by decide +kernel
theorem dX7_allHolds_31 : decode cX7_allHolds 31 = .ok (.ifCond .eq 39, 3) := by decide +kernel
theorem dX7_allHolds_34 : decode cX7_allHolds 34 = .ok (.aload_n 0, 1) := by decide +kernel
theorem dX7_allHolds_35 : decode cX7_allHolds 35 = .ok (.invokevirtual 85, 3) := by decide +kernel
theorem dX7_allHolds_38 : decode cX7_allHolds 38 = .ok (.ifCond .eq 32, 3) := by decide +kernel
theorem dX7_allHolds_41 : decode cX7_allHolds 41 = .ok (.aload_n 0, 1) := by decide +kernel
theorem dX7_allHolds_42 : decode cX7_allHolds 42 = .ok (.invokevirtual 88, 3) := by decide +kernel
theorem dX7_allHolds_45 : decode cX7_allHolds 45 = .ok (.ifCond .eq 25, 3) := by decide +kernel
theorem dX7_allHolds_48 : decode cX7_allHolds 48 = .ok (.aload_n 0, 1) := by decide +kernel
theorem dX7_allHolds_49 : decode cX7_allHolds 49 = .ok (.invokevirtual 91, 3) := by decide +kernel
theorem dX7_allHolds_52 : decode cX7_allHolds 52 = .ok (.ifCond .eq 18, 3) := by decide +kernel
theorem dX7_allHolds_55 : decode cX7_allHolds 55 = .ok (.aload_n 0, 1) := by decide +kernel
theorem dX7_allHolds_56 : decode cX7_allHolds 56 = .ok (.getfield 41, 3) := by decide +kernel
theorem dX7_allHolds_59 : decode cX7_allHolds 59 = .ok (.iload_n 1, 1) := by decide +kernel
theorem dX7_allHolds_60 : decode cX7_allHolds 60 = .ok (.invokevirtual 94, 3) := by decide +kernel
theorem dX7_allHolds_63 : decode cX7_allHolds 63 = .ok (.ifCond .eq 7, 3) := by decide +kernel
theorem dX7_allHolds_66 : decode cX7_allHolds 66 = .ok (.iconst 1, 1) := by decide +kernel
theorem dX7_allHolds_67 : decode cX7_allHolds 67 = .ok (.goto 4, 3) := by decide +kernel
theorem dX7_allHolds_70 : decode cX7_allHolds 70 = .ok (.iconst 0, 1) := by decide +kernel
theorem dX7_allHolds_71 : decode cX7_allHolds 71 = .ok (.ireturn, 1) := by decide +kernel
theorem dX7_claimFixed_0 : decode cX7_claimFixed 0 = .ok (.aload_n 0, 1) := by decide +kernel
theorem dX7_claimFixed_1 : decode cX7_claimFixed 1 = .ok (.getfield 65, 3) := by decide +kernel
theorem dX7_claimFixed_4 : decode cX7_claimFixed 4 = .ok (.iconst 0, 1) := by decide +kernel
theorem dX7_claimFixed_5 : decode cX7_claimFixed 5 = .ok (.invokestatic 100, 3) := by decide +kernel
theorem dX7_claimFixed_8 : decode cX7_claimFixed 8 = .ok (.iconst 0, 1) := by decide +kernel
theorem dX7_claimFixed_9 : decode cX7_claimFixed 9 = .ok (.istore_n 1, 1) := by decide +kernel
theorem dX7_claimFixed_10 : decode cX7_claimFixed 10 = .ok (.iload_n 1, 1) := by decide +kernel
theorem dX7_claimFixed_11 : decode cX7_claimFixed 11 = .ok (.aload_n 0, 1) := by decide +kernel
theorem dX7_claimFixed_12 : decode cX7_claimFixed 12 = .ok (.getfield 30, 3) := by decide +kernel
theorem dX7_claimFixed_15 : decode cX7_claimFixed 15 = .ok (.invokevirtual 103, 3) := by decide +kernel
theorem dX7_claimFixed_18 : decode cX7_claimFixed 18 = .ok (.if_icmp .ge 43, 3) := by decide +kernel
theorem dX7_claimFixed_21 : decode cX7_claimFixed 21 = .ok (.iconst 0, 1) := by decide +kernel
theorem dX7_claimFixed_22 : decode cX7_claimFixed 22 = .ok (.istore_n 2, 1) := by decide +kernel
theorem dX7_claimFixed_23 : decode cX7_claimFixed 23 = .ok (.iload_n 2, 1) := by decide +kernel
theorem dX7_claimFixed_24 : decode cX7_claimFixed 24 = .ok (.aload_n 0, 1) := by decide +kernel
theorem dX7_claimFixed_25 : decode cX7_claimFixed 25 = .ok (.getfield 30, 3) := by decide +kernel
theorem dX7_claimFixed_28 : decode cX7_claimFixed 28 = .ok (.invokevirtual 106, 3) := by decide +kernel
theorem dX7_claimFixed_31 : decode cX7_claimFixed 31 = .ok (.if_icmp .ge 24, 3) := by decide +kernel
theorem dX7_claimFixed_34 : decode cX7_claimFixed 34 = .ok (.aload_n 0, 1) := by decide +kernel
theorem dX7_claimFixed_35 : decode cX7_claimFixed 35 = .ok (.aload_n 0, 1) := by decide +kernel
theorem dX7_claimFixed_36 : decode cX7_claimFixed 36 = .ok (.getfield 30, 3) := by decide +kernel
theorem dX7_claimFixed_39 : decode cX7_claimFixed 39 = .ok (.iload_n 1, 1) := by decide +kernel
theorem dX7_claimFixed_40 : decode cX7_claimFixed 40 = .ok (.invokevirtual 109, 3) := by decide +kernel
theorem dX7_claimFixed_43 : decode cX7_claimFixed 43 = .ok (.iload_n 2, 1) := by decide +kernel
theorem dX7_claimFixed_44 : decode cX7_claimFixed 44 = .ok (.iadd, 1) := by decide +kernel
theorem dX7_claimFixed_45 : decode cX7_claimFixed 45 = .ok (.invokevirtual 113, 3) := by decide +kernel
theorem dX7_claimFixed_48 : decode cX7_claimFixed 48 = .ok (.pop, 1) := by decide +kernel
theorem dX7_claimFixed_49 : decode cX7_claimFixed 49 = .ok (.iinc 2 1, 3) := by decide +kernel
theorem dX7_claimFixed_52 : decode cX7_claimFixed 52 = .ok (.goto (-29), 3) := by decide +kernel
theorem dX7_claimFixed_55 : decode cX7_claimFixed 55 = .ok (.iinc 1 1, 3) := by decide +kernel
theorem dX7_claimFixed_58 : decode cX7_claimFixed 58 = .ok (.goto (-48), 3) := by decide +kernel
theorem dX7_claimFixed_61 : decode cX7_claimFixed 61 = .ok (.return_, 1) := by decide +kernel
theorem dX2_groups_0 : decode cX2_groups 0 = .ok (.aload_n 0, 1) := by decide +kernel
theorem dX2_groups_1 : decode cX2_groups 1 = .ok (.getfield 18, 3) := by decide +kernel
theorem dX2_groups_4 : decode cX2_groups 4 = .ok (.ireturn, 1) := by decide +kernel
theorem dX2_fixedBlocks_0 : decode cX2_fixedBlocks 0 = .ok (.iconst 4, 1) := by decide +kernel
theorem dX2_fixedBlocks_1 : decode cX2_fixedBlocks 1 = .ok (.aload_n 0, 1) := by decide +kernel
theorem dX2_fixedBlocks_2 : decode cX2_fixedBlocks 2 = .ok (.getfield 21, 3) := by decide +kernel
theorem dX2_fixedBlocks_5 : decode cX2_fixedBlocks 5 = .ok (.bipush 8, 2) := by decide +kernel
theorem dX2_fixedBlocks_7 : decode cX2_fixedBlocks 7 = .ok (.idiv, 1) := by decide +kernel
theorem dX2_fixedBlocks_8 : decode cX2_fixedBlocks 8 = .ok (.iadd, 1) := by decide +kernel
theorem dX2_fixedBlocks_9 : decode cX2_fixedBlocks 9 = .ok (.ireturn, 1) := by decide +kernel
theorem dX2_firstBlock_0 : decode cX2_firstBlock 0 = .ok (.iconst 1, 1) := by decide +kernel
theorem dX2_firstBlock_1 : decode cX2_firstBlock 1 = .ok (.iload_n 1, 1) := by decide +kernel
theorem dX2_firstBlock_2 : decode cX2_firstBlock 2 = .ok (.aload_n 0, 1) := by decide +kernel
theorem dX2_firstBlock_3 : decode cX2_firstBlock 3 = .ok (.getfield 15, 3) := by decide +kernel
theorem dX2_firstBlock_6 : decode cX2_firstBlock 6 = .ok (.imul, 1) := by decide +kernel
theorem dX2_firstBlock_7 : decode cX2_firstBlock 7 = .ok (.iadd, 1) := by decide +kernel
theorem dX2_firstBlock_8 : decode cX2_firstBlock 8 = .ok (.ireturn, 1) := by decide +kernel
theorem dX7_claim_0 : decode cX7_claim 0 = .ok (.iload_n 1, 1) := by decide +kernel
theorem dX7_claim_1 : decode cX7_claim 1 = .ok (.iconst 1, 1) := by decide +kernel
theorem dX7_claim_2 : decode cX7_claim 2 = .ok (.if_icmp .lt 21, 3) := by decide +kernel
theorem dX7_claim_5 : decode cX7_claim 5 = .ok (.iload_n 1, 1) := by decide +kernel
theorem dX7_claim_6 : decode cX7_claim 6 = .ok (.aload_n 0, 1) := by decide +kernel
theorem dX7_claim_7 : decode cX7_claim 7 = .ok (.getfield 65, 3) := by decide +kernel
theorem dX7_claim_10 : decode cX7_claim 10 = .ok (.arraylength, 1) := by decide +kernel
theorem dX7_claim_11 : decode cX7_claim 11 = .ok (.if_icmp .ge 12, 3) := by decide +kernel
theorem dX7_claim_14 : decode cX7_claim 14 = .ok (.aload_n 0, 1) := by decide +kernel
theorem dX7_claim_15 : decode cX7_claim 15 = .ok (.getfield 65, 3) := by decide +kernel
theorem dX7_claim_18 : decode cX7_claim 18 = .ok (.iload_n 1, 1) := by decide +kernel
theorem dX7_claim_19 : decode cX7_claim 19 = .ok (.baload, 1) := by decide +kernel
theorem dX7_claim_20 : decode cX7_claim 20 = .ok (.ifCond .eq 5, 3) := by decide +kernel
theorem dX7_claim_23 : decode cX7_claim 23 = .ok (.iconst 0, 1) := by decide +kernel
theorem dX7_claim_24 : decode cX7_claim 24 = .ok (.ireturn, 1) := by decide +kernel
theorem dX7_claim_25 : decode cX7_claim 25 = .ok (.aload_n 0, 1) := by decide +kernel
theorem dX7_claim_26 : decode cX7_claim 26 = .ok (.getfield 65, 3) := by decide +kernel
theorem dX7_claim_29 : decode cX7_claim 29 = .ok (.iload_n 1, 1) := by decide +kernel
theorem dX7_claim_30 : decode cX7_claim 30 = .ok (.iconst 1, 1) := by decide +kernel
theorem dX7_claim_31 : decode cX7_claim 31 = .ok (.bastore, 1) := by decide +kernel
theorem dX7_claim_32 : decode cX7_claim 32 = .ok (.iconst 1, 1) := by decide +kernel
theorem dX7_claim_33 : decode cX7_claim 33 = .ok (.ireturn, 1) := by decide +kernel
theorem dX7_inodesHold_0 : decode cX7_inodesHold 0 = .ok (.iconst 1, 1) := by decide +kernel
theorem dX7_inodesHold_1 : decode cX7_inodesHold 1 = .ok (.istore_n 1, 1) := by decide +kernel
theorem dX7_inodesHold_2 : decode cX7_inodesHold 2 = .ok (.iload_n 1, 1) := by decide +kernel
theorem dX7_inodesHold_3 : decode cX7_inodesHold 3 = .ok (.aload_n 0, 1) := by decide +kernel
theorem dX7_inodesHold_4 : decode cX7_inodesHold 4 = .ok (.getfield 30, 3) := by decide +kernel
theorem dX7_inodesHold_7 : decode cX7_inodesHold 7 = .ok (.invokevirtual 116, 3) := by decide +kernel
theorem dX7_inodesHold_10 : decode cX7_inodesHold 10 = .ok (.if_icmp .gt 79, 3) := by decide +kernel
theorem dX7_inodesHold_13 : decode cX7_inodesHold 13 = .ok (.aload_n 0, 1) := by decide +kernel
theorem dX7_inodesHold_14 : decode cX7_inodesHold 14 = .ok (.getfield 30, 3) := by decide +kernel
theorem dX7_inodesHold_17 : decode cX7_inodesHold 17 = .ok (.iload_n 1, 1) := by decide +kernel
theorem dX7_inodesHold_18 : decode cX7_inodesHold 18 = .ok (.invokevirtual 118, 3) := by decide +kernel
theorem dX7_inodesHold_21 : decode cX7_inodesHold 21 = .ok (.istore_n 2, 1) := by decide +kernel
theorem dX7_inodesHold_22 : decode cX7_inodesHold 22 = .ok (.iload_n 1, 1) := by decide +kernel
theorem dX7_inodesHold_23 : decode cX7_inodesHold 23 = .ok (.iconst 2, 1) := by decide +kernel
theorem dX7_inodesHold_24 : decode cX7_inodesHold 24 = .ok (.if_icmp .eq 20, 3) := by decide +kernel
theorem dX7_inodesHold_27 : decode cX7_inodesHold 27 = .ok (.iload_n 1, 1) := by decide +kernel
theorem dX7_inodesHold_28 : decode cX7_inodesHold 28 = .ok (.bipush 11, 2) := by decide +kernel
theorem dX7_inodesHold_30 : decode cX7_inodesHold 30 = .ok (.if_icmp .le 18, 3) := by decide +kernel
theorem dX7_inodesHold_33 : decode cX7_inodesHold 33 = .ok (.aload_n 0, 1) := by decide +kernel
theorem dX7_inodesHold_34 : decode cX7_inodesHold 34 = .ok (.getfield 38, 3) := by decide +kernel
theorem dX7_inodesHold_37 : decode cX7_inodesHold 37 = .ok (.iload_n 1, 1) := by decide +kernel
theorem dX7_inodesHold_38 : decode cX7_inodesHold 38 = .ok (.invokevirtual 121, 3) := by decide +kernel
theorem dX7_inodesHold_41 : decode cX7_inodesHold 41 = .ok (.ifCond .eq 7, 3) := by decide +kernel
theorem dX7_inodesHold_44 : decode cX7_inodesHold 44 = .ok (.iconst 1, 1) := by decide +kernel
theorem dX7_inodesHold_45 : decode cX7_inodesHold 45 = .ok (.goto 4, 3) := by decide +kernel
theorem dX7_inodesHold_48 : decode cX7_inodesHold 48 = .ok (.iconst 0, 1) := by decide +kernel
theorem dX7_inodesHold_49 : decode cX7_inodesHold 49 = .ok (.istore_n 3, 1) := by decide +kernel
theorem dX7_inodesHold_50 : decode cX7_inodesHold 50 = .ok (.iload_n 3, 1) := by decide +kernel
theorem dX7_inodesHold_51 : decode cX7_inodesHold 51 = .ok (.ifCond .eq 14, 3) := by decide +kernel
theorem dX7_inodesHold_54 : decode cX7_inodesHold 54 = .ok (.aload_n 0, 1) := by decide +kernel
theorem dX7_inodesHold_55 : decode cX7_inodesHold 55 = .ok (.iload_n 2, 1) := by decide +kernel
theorem dX7_inodesHold_56 : decode cX7_inodesHold 56 = .ok (.invokevirtual 126, 3) := by decide +kernel
theorem dX7_inodesHold_59 : decode cX7_inodesHold 59 = .ok (.ifCond .ne 24, 3) := by decide +kernel
theorem dX7_inodesHold_62 : decode cX7_inodesHold 62 = .ok (.goto 19, 3) := by decide +kernel
theorem dX7_inodesHold_65 : decode cX7_inodesHold 65 = .ok (.aload_n 0, 1) := by decide +kernel
theorem dX7_inodesHold_66 : decode cX7_inodesHold 66 = .ok (.getfield 27, 3) := by decide +kernel
theorem dX7_inodesHold_69 : decode cX7_inodesHold 69 = .ok (.iload_n 2, 1) := by decide +kernel
theorem dX7_inodesHold_70 : decode cX7_inodesHold 70 = .ok (.iload_n 2, 1) := by decide +kernel
theorem dX7_inodesHold_71 : decode cX7_inodesHold 71 = .ok (.sipush 128, 3) := by decide +kernel
theorem dX7_inodesHold_74 : decode cX7_inodesHold 74 = .ok (.iadd, 1) := by decide +kernel
theorem dX7_inodesHold_75 : decode cX7_inodesHold 75 = .ok (.invokevirtual 129, 3) := by decide +kernel
theorem dX7_inodesHold_78 : decode cX7_inodesHold 78 = .ok (.ifCond .ne 5, 3) := by decide +kernel
theorem dX7_inodesHold_81 : decode cX7_inodesHold 81 = .ok (.iconst 0, 1) := by decide +kernel
theorem dX7_inodesHold_82 : decode cX7_inodesHold 82 = .ok (.ireturn, 1) := by decide +kernel
theorem dX7_inodesHold_83 : decode cX7_inodesHold 83 = .ok (.iinc 1 1, 3) := by decide +kernel
theorem dX7_inodesHold_86 : decode cX7_inodesHold 86 = .ok (.goto (-84), 3) := by decide +kernel
theorem dX7_inodesHold_89 : decode cX7_inodesHold 89 = .ok (.iconst 1, 1) := by decide +kernel
theorem dX7_inodesHold_90 : decode cX7_inodesHold 90 = .ok (.ireturn, 1) := by decide +kernel
theorem dX2_inodes_0 : decode cX2_inodes 0 = .ok (.aload_n 0, 1) := by decide +kernel
theorem dX2_inodes_1 : decode cX2_inodes 1 = .ok (.getfield 18, 3) := by decide +kernel
theorem dX2_inodes_4 : decode cX2_inodes 4 = .ok (.aload_n 0, 1) := by decide +kernel
theorem dX2_inodes_5 : decode cX2_inodes 5 = .ok (.getfield 21, 3) := by decide +kernel
theorem dX2_inodes_8 : decode cX2_inodes 8 = .ok (.imul, 1) := by decide +kernel
theorem dX2_inodes_9 : decode cX2_inodes 9 = .ok (.ireturn, 1) := by decide +kernel
theorem dX2_inodeAt_0 : decode cX2_inodeAt 0 = .ok (.aload_n 0, 1) := by decide +kernel
theorem dX2_inodeAt_1 : decode cX2_inodeAt 1 = .ok (.getfield 21, 3) := by decide +kernel
theorem dX2_inodeAt_4 : decode cX2_inodeAt 4 = .ok (.iconst 1, 1) := by decide +kernel
theorem dX2_inodeAt_5 : decode cX2_inodeAt 5 = .ok (.if_icmp .ge 5, 3) := by decide +kernel
theorem dX2_inodeAt_8 : decode cX2_inodeAt 8 = .ok (.iconst (-1), 1) := by decide +kernel
theorem dX2_inodeAt_9 : decode cX2_inodeAt 9 = .ok (.ireturn, 1) := by decide +kernel
theorem dX2_inodeAt_10 : decode cX2_inodeAt 10 = .ok (.iconst 1, 1) := by decide +kernel
theorem dX2_inodeAt_11 : decode cX2_inodeAt 11 = .ok (.iload_n 1, 1) := by decide +kernel
theorem dX2_inodeAt_12 : decode cX2_inodeAt 12 = .ok (.iconst 1, 1) := by decide +kernel
theorem dX2_inodeAt_13 : decode cX2_inodeAt 13 = .ok (.isub, 1) := by decide +kernel
theorem dX2_inodeAt_14 : decode cX2_inodeAt 14 = .ok (.aload_n 0, 1) := by decide +kernel
theorem dX2_inodeAt_15 : decode cX2_inodeAt 15 = .ok (.getfield 21, 3) := by decide +kernel
theorem dX2_inodeAt_18 : decode cX2_inodeAt 18 = .ok (.idiv, 1) := by decide +kernel
theorem dX2_inodeAt_19 : decode cX2_inodeAt 19 = .ok (.aload_n 0, 1) := by decide +kernel
theorem dX2_inodeAt_20 : decode cX2_inodeAt 20 = .ok (.getfield 15, 3) := by decide +kernel
theorem dX2_inodeAt_23 : decode cX2_inodeAt 23 = .ok (.imul, 1) := by decide +kernel
theorem dX2_inodeAt_24 : decode cX2_inodeAt 24 = .ok (.iadd, 1) := by decide +kernel
theorem dX2_inodeAt_25 : decode cX2_inodeAt 25 = .ok (.iconst 4, 1) := by decide +kernel
theorem dX2_inodeAt_26 : decode cX2_inodeAt 26 = .ok (.iadd, 1) := by decide +kernel
theorem dX2_inodeAt_27 : decode cX2_inodeAt 27 = .ok (.istore_n 2, 1) := by decide +kernel
theorem dX2_inodeAt_28 : decode cX2_inodeAt 28 = .ok (.iload_n 2, 1) := by decide +kernel
theorem dX2_inodeAt_29 : decode cX2_inodeAt 29 = .ok (.sipush 1024, 3) := by decide +kernel
theorem dX2_inodeAt_32 : decode cX2_inodeAt 32 = .ok (.imul, 1) := by decide +kernel
theorem dX2_inodeAt_33 : decode cX2_inodeAt 33 = .ok (.iload_n 1, 1) := by decide +kernel
theorem dX2_inodeAt_34 : decode cX2_inodeAt 34 = .ok (.iconst 1, 1) := by decide +kernel
theorem dX2_inodeAt_35 : decode cX2_inodeAt 35 = .ok (.isub, 1) := by decide +kernel
theorem dX2_inodeAt_36 : decode cX2_inodeAt 36 = .ok (.aload_n 0, 1) := by decide +kernel
theorem dX2_inodeAt_37 : decode cX2_inodeAt 37 = .ok (.getfield 21, 3) := by decide +kernel
theorem dX2_inodeAt_40 : decode cX2_inodeAt 40 = .ok (.irem, 1) := by decide +kernel
theorem dX2_inodeAt_41 : decode cX2_inodeAt 41 = .ok (.sipush 128, 3) := by decide +kernel
theorem dX2_inodeAt_44 : decode cX2_inodeAt 44 = .ok (.imul, 1) := by decide +kernel
theorem dX2_inodeAt_45 : decode cX2_inodeAt 45 = .ok (.iadd, 1) := by decide +kernel
theorem dX2_inodeAt_46 : decode cX2_inodeAt 46 = .ok (.ireturn, 1) := by decide +kernel
theorem dX7_inodeHolds_0 : decode cX7_inodeHolds 0 = .ok (.aload_n 0, 1) := by decide +kernel
theorem dX7_inodeHolds_1 : decode cX7_inodeHolds 1 = .ok (.getfield 27, 3) := by decide +kernel
theorem dX7_inodeHolds_4 : decode cX7_inodeHolds 4 = .ok (.iload_n 1, 1) := by decide +kernel
theorem dX7_inodeHolds_5 : decode cX7_inodeHolds 5 = .ok (.invokevirtual 133, 3) := by decide +kernel
theorem dX7_inodeHolds_8 : decode cX7_inodeHolds 8 = .ok (.istore_n 2, 1) := by decide +kernel
theorem dX7_inodeHolds_9 : decode cX7_inodeHolds 9 = .ok (.aload_n 0, 1) := by decide +kernel
theorem dX7_inodeHolds_10 : decode cX7_inodeHolds 10 = .ok (.getfield 27, 3) := by decide +kernel
theorem dX7_inodeHolds_13 : decode cX7_inodeHolds 13 = .ok (.iload_n 1, 1) := by decide +kernel
theorem dX7_inodeHolds_14 : decode cX7_inodeHolds 14 = .ok (.iconst 4, 1) := by decide +kernel
theorem dX7_inodeHolds_15 : decode cX7_inodeHolds 15 = .ok (.iadd, 1) := by decide +kernel
theorem dX7_inodeHolds_16 : decode cX7_inodeHolds 16 = .ok (.invokevirtual 136, 3) := by decide +kernel
theorem dX7_inodeHolds_19 : decode cX7_inodeHolds 19 = .ok (.istore_n 3, 1) := by decide +kernel
theorem dX7_inodeHolds_20 : decode cX7_inodeHolds 20 = .ok (.iload_n 2, 1) := by decide +kernel
theorem dX7_inodeHolds_21 : decode cX7_inodeHolds 21 = .ok (.sipush 16877, 3) := by decide +kernel
theorem dX7_inodeHolds_24 : decode cX7_inodeHolds 24 = .ok (.if_icmp .eq 9, 3) := by decide +kernel
theorem dX7_inodeHolds_27 : decode cX7_inodeHolds 27 = .ok (.iload_n 2, 1) := by decide +kernel
theorem dX7_inodeHolds_28 : decode cX7_inodeHolds 28 = .ok (.ldc 139, 2) := by decide +kernel
theorem dX7_inodeHolds_30 : decode cX7_inodeHolds 30 = .ok (.if_icmp .ne 18, 3) := by decide +kernel
theorem dX7_inodeHolds_33 : decode cX7_inodeHolds 33 = .ok (.iload_n 3, 1) := by decide +kernel
theorem dX7_inodeHolds_34 : decode cX7_inodeHolds 34 = .ok (.ifCond .lt 14, 3) := by decide +kernel
theorem dX7_inodeHolds_37 : decode cX7_inodeHolds 37 = .ok (.iload_n 3, 1) := by decide +kernel
theorem dX7_inodeHolds_38 : decode cX7_inodeHolds 38 = .ok (.aload_n 0, 1) := by decide +kernel
theorem dX7_inodeHolds_39 : decode cX7_inodeHolds 39 = .ok (.getfield 27, 3) := by decide +kernel
theorem dX7_inodeHolds_42 : decode cX7_inodeHolds 42 = .ok (.invokevirtual 140, 3) := by decide +kernel
theorem dX7_inodeHolds_45 : decode cX7_inodeHolds 45 = .ok (.if_icmp .le 5, 3) := by decide +kernel
theorem dX7_inodeHolds_48 : decode cX7_inodeHolds 48 = .ok (.iconst 0, 1) := by decide +kernel
theorem dX7_inodeHolds_49 : decode cX7_inodeHolds 49 = .ok (.ireturn, 1) := by decide +kernel
theorem dX7_inodeHolds_50 : decode cX7_inodeHolds 50 = .ok (.iload_n 3, 1) := by decide +kernel
theorem dX7_inodeHolds_51 : decode cX7_inodeHolds 51 = .ok (.invokestatic 143, 3) := by decide +kernel
theorem dX7_inodeHolds_54 : decode cX7_inodeHolds 54 = .ok (.istore 4, 2) := by decide +kernel
theorem dX7_inodeHolds_56 : decode cX7_inodeHolds 56 = .ok (.aload_n 0, 1) := by decide +kernel
theorem dX7_inodeHolds_57 : decode cX7_inodeHolds 57 = .ok (.getfield 27, 3) := by decide +kernel
theorem dX7_inodeHolds_60 : decode cX7_inodeHolds 60 = .ok (.iload_n 1, 1) := by decide +kernel
theorem dX7_inodeHolds_61 : decode cX7_inodeHolds 61 = .ok (.iconst 2, 1) := by decide +kernel
theorem dX7_inodeHolds_62 : decode cX7_inodeHolds 62 = .ok (.iadd, 1) := by decide +kernel
theorem dX7_inodeHolds_63 : decode cX7_inodeHolds 63 = .ok (.iload_n 1, 1) := by decide +kernel
theorem dX7_inodeHolds_64 : decode cX7_inodeHolds 64 = .ok (.iconst 4, 1) := by decide +kernel
theorem dX7_inodeHolds_65 : decode cX7_inodeHolds 65 = .ok (.iadd, 1) := by decide +kernel
theorem dX7_inodeHolds_66 : decode cX7_inodeHolds 66 = .ok (.invokevirtual 129, 3) := by decide +kernel
theorem dX7_inodeHolds_69 : decode cX7_inodeHolds 69 = .ok (.ifCond .eq 100, 3) := by decide +kernel
theorem dX7_inodeHolds_72 : decode cX7_inodeHolds 72 = .ok (.aload_n 0, 1) := by decide +kernel
theorem dX7_inodeHolds_73 : decode cX7_inodeHolds 73 = .ok (.getfield 27, 3) := by decide +kernel
theorem dX7_inodeHolds_76 : decode cX7_inodeHolds 76 = .ok (.iload_n 1, 1) := by decide +kernel
theorem dX7_inodeHolds_77 : decode cX7_inodeHolds 77 = .ok (.bipush 8, 2) := by decide +kernel
theorem dX7_inodeHolds_79 : decode cX7_inodeHolds 79 = .ok (.iadd, 1) := by decide +kernel
theorem dX7_inodeHolds_80 : decode cX7_inodeHolds 80 = .ok (.bipush 12, 2) := by decide +kernel
theorem dX7_inodeHolds_82 : decode cX7_inodeHolds 82 = .ok (.iadd, 1) := by decide +kernel
theorem dX7_inodeHolds_83 : decode cX7_inodeHolds 83 = .ok (.iload_n 1, 1) := by decide +kernel
theorem dX7_inodeHolds_84 : decode cX7_inodeHolds 84 = .ok (.bipush 26, 2) := by decide +kernel
theorem dX7_inodeHolds_86 : decode cX7_inodeHolds 86 = .ok (.iadd, 1) := by decide +kernel
theorem dX7_inodeHolds_87 : decode cX7_inodeHolds 87 = .ok (.invokevirtual 129, 3) := by decide +kernel
theorem dX7_inodeHolds_90 : decode cX7_inodeHolds 90 = .ok (.ifCond .eq 79, 3) := by decide +kernel
theorem dX7_inodeHolds_93 : decode cX7_inodeHolds 93 = .ok (.aload_n 0, 1) := by decide +kernel
theorem dX7_inodeHolds_94 : decode cX7_inodeHolds 94 = .ok (.getfield 27, 3) := by decide +kernel
theorem dX7_inodeHolds_97 : decode cX7_inodeHolds 97 = .ok (.iload_n 1, 1) := by decide +kernel
theorem dX7_inodeHolds_98 : decode cX7_inodeHolds 98 = .ok (.bipush 28, 2) := by decide +kernel
theorem dX7_inodeHolds_100 : decode cX7_inodeHolds 100 = .ok (.iadd, 1) := by decide +kernel
theorem dX7_inodeHolds_101 : decode cX7_inodeHolds 101 = .ok (.invokevirtual 136, 3) := by decide +kernel
theorem dX7_inodeHolds_104 : decode cX7_inodeHolds 104 = .ok (.iconst 2, 1) := by decide +kernel
theorem dX7_inodeHolds_105 : decode cX7_inodeHolds 105 = .ok (.iload 4, 2) := by decide +kernel
theorem dX7_inodeHolds_107 : decode cX7_inodeHolds 107 = .ok (.invokestatic 146, 3) := by decide +kernel
theorem dX7_inodeHolds_110 : decode cX7_inodeHolds 110 = .ok (.imul, 1) := by decide +kernel
theorem dX7_inodeHolds_111 : decode cX7_inodeHolds 111 = .ok (.if_icmp .ne 58, 3) := by decide +kernel
theorem dX7_inodeHolds_114 : decode cX7_inodeHolds 114 = .ok (.aload_n 0, 1) := by decide +kernel
theorem dX7_inodeHolds_115 : decode cX7_inodeHolds 115 = .ok (.getfield 27, 3) := by decide +kernel
theorem dX7_inodeHolds_118 : decode cX7_inodeHolds 118 = .ok (.iload_n 1, 1) := by decide +kernel
theorem dX7_inodeHolds_119 : decode cX7_inodeHolds 119 = .ok (.bipush 28, 2) := by decide +kernel
theorem dX7_inodeHolds_121 : decode cX7_inodeHolds 121 = .ok (.iadd, 1) := by decide +kernel
theorem dX7_inodeHolds_122 : decode cX7_inodeHolds 122 = .ok (.iconst 4, 1) := by decide +kernel
theorem dX7_inodeHolds_123 : decode cX7_inodeHolds 123 = .ok (.iadd, 1) := by decide +kernel
theorem dX7_inodeHolds_124 : decode cX7_inodeHolds 124 = .ok (.iload_n 1, 1) := by decide +kernel
theorem dX7_inodeHolds_125 : decode cX7_inodeHolds 125 = .ok (.bipush 40, 2) := by decide +kernel
theorem dX7_inodeHolds_127 : decode cX7_inodeHolds 127 = .ok (.iadd, 1) := by decide +kernel
theorem dX7_inodeHolds_128 : decode cX7_inodeHolds 128 = .ok (.invokevirtual 129, 3) := by decide +kernel
theorem dX7_inodeHolds_131 : decode cX7_inodeHolds 131 = .ok (.ifCond .eq 38, 3) := by decide +kernel
theorem dX7_inodeHolds_134 : decode cX7_inodeHolds 134 = .ok (.aload_n 0, 1) := by decide +kernel
theorem dX7_inodeHolds_135 : decode cX7_inodeHolds 135 = .ok (.getfield 27, 3) := by decide +kernel
theorem dX7_inodeHolds_138 : decode cX7_inodeHolds 138 = .ok (.iload_n 1, 1) := by decide +kernel
theorem dX7_inodeHolds_139 : decode cX7_inodeHolds 139 = .ok (.bipush 92, 2) := by decide +kernel
theorem dX7_inodeHolds_141 : decode cX7_inodeHolds 141 = .ok (.iadd, 1) := by decide +kernel
theorem dX7_inodeHolds_142 : decode cX7_inodeHolds 142 = .ok (.iconst 4, 1) := by decide +kernel
theorem dX7_inodeHolds_143 : decode cX7_inodeHolds 143 = .ok (.iadd, 1) := by decide +kernel
theorem dX7_inodeHolds_144 : decode cX7_inodeHolds 144 = .ok (.iload_n 1, 1) := by decide +kernel
theorem dX7_inodeHolds_145 : decode cX7_inodeHolds 145 = .ok (.sipush 128, 3) := by decide +kernel
theorem dX7_inodeHolds_148 : decode cX7_inodeHolds 148 = .ok (.iadd, 1) := by decide +kernel
theorem dX7_inodeHolds_149 : decode cX7_inodeHolds 149 = .ok (.invokevirtual 129, 3) := by decide +kernel
theorem dX7_inodeHolds_152 : decode cX7_inodeHolds 152 = .ok (.ifCond .eq 17, 3) := by decide +kernel
theorem dX7_inodeHolds_155 : decode cX7_inodeHolds 155 = .ok (.aload_n 0, 1) := by decide +kernel
theorem dX7_inodeHolds_156 : decode cX7_inodeHolds 156 = .ok (.iload_n 1, 1) := by decide +kernel
theorem dX7_inodeHolds_157 : decode cX7_inodeHolds 157 = .ok (.iload 4, 2) := by decide +kernel
theorem dX7_inodeHolds_159 : decode cX7_inodeHolds 159 = .ok (.invokevirtual 149, 3) := by decide +kernel
theorem dX7_inodeHolds_162 : decode cX7_inodeHolds 162 = .ok (.ifCond .eq 7, 3) := by decide +kernel
theorem dX7_inodeHolds_165 : decode cX7_inodeHolds 165 = .ok (.iconst 1, 1) := by decide +kernel
theorem dX7_inodeHolds_166 : decode cX7_inodeHolds 166 = .ok (.goto 4, 3) := by decide +kernel
theorem dX7_inodeHolds_169 : decode cX7_inodeHolds 169 = .ok (.iconst 0, 1) := by decide +kernel
theorem dX7_inodeHolds_170 : decode cX7_inodeHolds 170 = .ok (.ireturn, 1) := by decide +kernel
theorem dX1_get2_0 : decode cX1_get2 0 = .ok (.iload_n 1, 1) := by decide +kernel
theorem dX1_get2_1 : decode cX1_get2 1 = .ok (.ifCond .lt 14, 3) := by decide +kernel
theorem dX1_get2_4 : decode cX1_get2 4 = .ok (.iload_n 1, 1) := by decide +kernel
theorem dX1_get2_5 : decode cX1_get2 5 = .ok (.aload_n 0, 1) := by decide +kernel
theorem dX1_get2_6 : decode cX1_get2 6 = .ok (.getfield 15, 3) := by decide +kernel
theorem dX1_get2_9 : decode cX1_get2 9 = .ok (.arraylength, 1) := by decide +kernel
theorem dX1_get2_10 : decode cX1_get2 10 = .ok (.iconst 2, 1) := by decide +kernel
theorem dX1_get2_11 : decode cX1_get2 11 = .ok (.isub, 1) := by decide +kernel
theorem dX1_get2_12 : decode cX1_get2 12 = .ok (.if_icmp .le 5, 3) := by decide +kernel
theorem dX1_get2_15 : decode cX1_get2 15 = .ok (.iconst 0, 1) := by decide +kernel
theorem dX1_get2_16 : decode cX1_get2 16 = .ok (.ireturn, 1) := by decide +kernel
theorem dX1_get2_17 : decode cX1_get2 17 = .ok (.aload_n 0, 1) := by decide +kernel
theorem dX1_get2_18 : decode cX1_get2 18 = .ok (.getfield 15, 3) := by decide +kernel
theorem dX1_get2_21 : decode cX1_get2 21 = .ok (.iload_n 1, 1) := by decide +kernel
theorem dX1_get2_22 : decode cX1_get2 22 = .ok (.baload, 1) := by decide +kernel
theorem dX1_get2_23 : decode cX1_get2 23 = .ok (.sipush 255, 3) := by decide +kernel
theorem dX1_get2_26 : decode cX1_get2 26 = .ok (.iand, 1) := by decide +kernel
theorem dX1_get2_27 : decode cX1_get2 27 = .ok (.aload_n 0, 1) := by decide +kernel
theorem dX1_get2_28 : decode cX1_get2 28 = .ok (.getfield 15, 3) := by decide +kernel
theorem dX1_get2_31 : decode cX1_get2 31 = .ok (.iload_n 1, 1) := by decide +kernel
theorem dX1_get2_32 : decode cX1_get2 32 = .ok (.iconst 1, 1) := by decide +kernel
theorem dX1_get2_33 : decode cX1_get2 33 = .ok (.iadd, 1) := by decide +kernel
theorem dX1_get2_34 : decode cX1_get2 34 = .ok (.baload, 1) := by decide +kernel
theorem dX1_get2_35 : decode cX1_get2 35 = .ok (.sipush 255, 3) := by decide +kernel
theorem dX1_get2_38 : decode cX1_get2 38 = .ok (.iand, 1) := by decide +kernel
theorem dX1_get2_39 : decode cX1_get2 39 = .ok (.bipush 8, 2) := by decide +kernel
theorem dX1_get2_41 : decode cX1_get2 41 = .ok (.ishl, 1) := by decide +kernel
theorem dX1_get2_42 : decode cX1_get2 42 = .ok (.ior, 1) := by decide +kernel
theorem dX1_get2_43 : decode cX1_get2 43 = .ok (.ireturn, 1) := by decide +kernel
theorem dX1_get4_0 : decode cX1_get4 0 = .ok (.iload_n 1, 1) := by decide +kernel
theorem dX1_get4_1 : decode cX1_get4 1 = .ok (.ifCond .lt 14, 3) := by decide +kernel
theorem dX1_get4_4 : decode cX1_get4 4 = .ok (.iload_n 1, 1) := by decide +kernel
theorem dX1_get4_5 : decode cX1_get4 5 = .ok (.aload_n 0, 1) := by decide +kernel
theorem dX1_get4_6 : decode cX1_get4 6 = .ok (.getfield 15, 3) := by decide +kernel
theorem dX1_get4_9 : decode cX1_get4 9 = .ok (.arraylength, 1) := by decide +kernel
theorem dX1_get4_10 : decode cX1_get4 10 = .ok (.iconst 4, 1) := by decide +kernel
theorem dX1_get4_11 : decode cX1_get4 11 = .ok (.isub, 1) := by decide +kernel
theorem dX1_get4_12 : decode cX1_get4 12 = .ok (.if_icmp .le 5, 3) := by decide +kernel
theorem dX1_get4_15 : decode cX1_get4 15 = .ok (.iconst 0, 1) := by decide +kernel
theorem dX1_get4_16 : decode cX1_get4 16 = .ok (.ireturn, 1) := by decide +kernel
theorem dX1_get4_17 : decode cX1_get4 17 = .ok (.aload_n 0, 1) := by decide +kernel
theorem dX1_get4_18 : decode cX1_get4 18 = .ok (.getfield 15, 3) := by decide +kernel
theorem dX1_get4_21 : decode cX1_get4 21 = .ok (.iload_n 1, 1) := by decide +kernel
theorem dX1_get4_22 : decode cX1_get4 22 = .ok (.baload, 1) := by decide +kernel
theorem dX1_get4_23 : decode cX1_get4 23 = .ok (.sipush 255, 3) := by decide +kernel
theorem dX1_get4_26 : decode cX1_get4 26 = .ok (.iand, 1) := by decide +kernel
theorem dX1_get4_27 : decode cX1_get4 27 = .ok (.aload_n 0, 1) := by decide +kernel
theorem dX1_get4_28 : decode cX1_get4 28 = .ok (.getfield 15, 3) := by decide +kernel
theorem dX1_get4_31 : decode cX1_get4 31 = .ok (.iload_n 1, 1) := by decide +kernel
theorem dX1_get4_32 : decode cX1_get4 32 = .ok (.iconst 1, 1) := by decide +kernel
theorem dX1_get4_33 : decode cX1_get4 33 = .ok (.iadd, 1) := by decide +kernel
theorem dX1_get4_34 : decode cX1_get4 34 = .ok (.baload, 1) := by decide +kernel
theorem dX1_get4_35 : decode cX1_get4 35 = .ok (.sipush 255, 3) := by decide +kernel
theorem dX1_get4_38 : decode cX1_get4 38 = .ok (.iand, 1) := by decide +kernel
theorem dX1_get4_39 : decode cX1_get4 39 = .ok (.bipush 8, 2) := by decide +kernel
theorem dX1_get4_41 : decode cX1_get4 41 = .ok (.ishl, 1) := by decide +kernel
theorem dX1_get4_42 : decode cX1_get4 42 = .ok (.ior, 1) := by decide +kernel
theorem dX1_get4_43 : decode cX1_get4 43 = .ok (.aload_n 0, 1) := by decide +kernel
theorem dX1_get4_44 : decode cX1_get4 44 = .ok (.getfield 15, 3) := by decide +kernel
theorem dX1_get4_47 : decode cX1_get4 47 = .ok (.iload_n 1, 1) := by decide +kernel
theorem dX1_get4_48 : decode cX1_get4 48 = .ok (.iconst 2, 1) := by decide +kernel
theorem dX1_get4_49 : decode cX1_get4 49 = .ok (.iadd, 1) := by decide +kernel
theorem dX1_get4_50 : decode cX1_get4 50 = .ok (.baload, 1) := by decide +kernel
theorem dX1_get4_51 : decode cX1_get4 51 = .ok (.sipush 255, 3) := by decide +kernel
theorem dX1_get4_54 : decode cX1_get4 54 = .ok (.iand, 1) := by decide +kernel
theorem dX1_get4_55 : decode cX1_get4 55 = .ok (.bipush 16, 2) := by decide +kernel
theorem dX1_get4_57 : decode cX1_get4 57 = .ok (.ishl, 1) := by decide +kernel
theorem dX1_get4_58 : decode cX1_get4 58 = .ok (.ior, 1) := by decide +kernel
theorem dX1_get4_59 : decode cX1_get4 59 = .ok (.aload_n 0, 1) := by decide +kernel
theorem dX1_get4_60 : decode cX1_get4 60 = .ok (.getfield 15, 3) := by decide +kernel
theorem dX1_get4_63 : decode cX1_get4 63 = .ok (.iload_n 1, 1) := by decide +kernel
theorem dX1_get4_64 : decode cX1_get4 64 = .ok (.iconst 3, 1) := by decide +kernel
theorem dX1_get4_65 : decode cX1_get4 65 = .ok (.iadd, 1) := by decide +kernel
theorem dX1_get4_66 : decode cX1_get4 66 = .ok (.baload, 1) := by decide +kernel
theorem dX1_get4_67 : decode cX1_get4 67 = .ok (.sipush 255, 3) := by decide +kernel
theorem dX1_get4_70 : decode cX1_get4 70 = .ok (.iand, 1) := by decide +kernel
theorem dX1_get4_71 : decode cX1_get4 71 = .ok (.bipush 24, 2) := by decide +kernel
theorem dX1_get4_73 : decode cX1_get4 73 = .ok (.ishl, 1) := by decide +kernel
theorem dX1_get4_74 : decode cX1_get4 74 = .ok (.ior, 1) := by decide +kernel
theorem dX1_get4_75 : decode cX1_get4 75 = .ok (.ireturn, 1) := by decide +kernel
theorem dX4_blocksFor_0 : decode cX4_blocksFor 0 = .ok (.iload_n 0, 1) := by decide +kernel
theorem dX4_blocksFor_1 : decode cX4_blocksFor 1 = .ok (.sipush 1024, 3) := by decide +kernel
theorem dX4_blocksFor_4 : decode cX4_blocksFor 4 = .ok (.iadd, 1) := by decide +kernel
theorem dX4_blocksFor_5 : decode cX4_blocksFor 5 = .ok (.iconst 1, 1) := by decide +kernel
theorem dX4_blocksFor_6 : decode cX4_blocksFor 6 = .ok (.isub, 1) := by decide +kernel
theorem dX4_blocksFor_7 : decode cX4_blocksFor 7 = .ok (.sipush 1024, 3) := by decide +kernel
theorem dX4_blocksFor_10 : decode cX4_blocksFor 10 = .ok (.idiv, 1) := by decide +kernel
theorem dX4_blocksFor_11 : decode cX4_blocksFor 11 = .ok (.ireturn, 1) := by decide +kernel
theorem dX1_isZero_0 : decode cX1_isZero 0 = .ok (.iload_n 1, 1) := by decide +kernel
theorem dX1_isZero_1 : decode cX1_isZero 1 = .ok (.istore_n 3, 1) := by decide +kernel
theorem dX1_isZero_2 : decode cX1_isZero 2 = .ok (.iload_n 3, 1) := by decide +kernel
theorem dX1_isZero_3 : decode cX1_isZero 3 = .ok (.iload_n 2, 1) := by decide +kernel
theorem dX1_isZero_4 : decode cX1_isZero 4 = .ok (.iconst 4, 1) := by decide +kernel
theorem dX1_isZero_5 : decode cX1_isZero 5 = .ok (.isub, 1) := by decide +kernel
theorem dX1_isZero_6 : decode cX1_isZero 6 = .ok (.if_icmp .gt 19, 3) := by decide +kernel
theorem dX1_isZero_9 : decode cX1_isZero 9 = .ok (.aload_n 0, 1) := by decide +kernel
theorem dX1_isZero_10 : decode cX1_isZero 10 = .ok (.iload_n 3, 1) := by decide +kernel
theorem dX1_isZero_11 : decode cX1_isZero 11 = .ok (.invokevirtual 33, 3) := by decide +kernel
theorem dX1_isZero_14 : decode cX1_isZero 14 = .ok (.ifCond .eq 5, 3) := by decide +kernel
theorem dX1_isZero_17 : decode cX1_isZero 17 = .ok (.iconst 0, 1) := by decide +kernel
theorem dX1_isZero_18 : decode cX1_isZero 18 = .ok (.ireturn, 1) := by decide +kernel
theorem dX1_isZero_19 : decode cX1_isZero 19 = .ok (.iinc 3 4, 3) := by decide +kernel
theorem dX1_isZero_22 : decode cX1_isZero 22 = .ok (.goto (-20), 3) := by decide +kernel
theorem dX1_isZero_25 : decode cX1_isZero 25 = .ok (.iload_n 3, 1) := by decide +kernel
theorem dX1_isZero_26 : decode cX1_isZero 26 = .ok (.iload_n 2, 1) := by decide +kernel
theorem dX1_isZero_27 : decode cX1_isZero 27 = .ok (.if_icmp .ge 19, 3) := by decide +kernel
theorem dX1_isZero_30 : decode cX1_isZero 30 = .ok (.aload_n 0, 1) := by decide +kernel
theorem dX1_isZero_31 : decode cX1_isZero 31 = .ok (.iload_n 3, 1) := by decide +kernel
theorem dX1_isZero_32 : decode cX1_isZero 32 = .ok (.invokevirtual 37, 3) := by decide +kernel
theorem dX1_isZero_35 : decode cX1_isZero 35 = .ok (.ifCond .eq 5, 3) := by decide +kernel
theorem dX1_isZero_38 : decode cX1_isZero 38 = .ok (.iconst 0, 1) := by decide +kernel
theorem dX1_isZero_39 : decode cX1_isZero 39 = .ok (.ireturn, 1) := by decide +kernel
theorem dX1_isZero_40 : decode cX1_isZero 40 = .ok (.iinc 3 1, 3) := by decide +kernel
theorem dX1_isZero_43 : decode cX1_isZero 43 = .ok (.goto (-18), 3) := by decide +kernel
theorem dX1_isZero_46 : decode cX1_isZero 46 = .ok (.iconst 1, 1) := by decide +kernel
theorem dX1_isZero_47 : decode cX1_isZero 47 = .ok (.ireturn, 1) := by decide +kernel
theorem dX4_withIndirect_0 : decode cX4_withIndirect 0 = .ok (.iload_n 0, 1) := by decide +kernel
theorem dX4_withIndirect_1 : decode cX4_withIndirect 1 = .ok (.bipush 12, 2) := by decide +kernel
theorem dX4_withIndirect_3 : decode cX4_withIndirect 3 = .ok (.if_icmp .gt 5, 3) := by decide +kernel
theorem dX4_withIndirect_6 : decode cX4_withIndirect 6 = .ok (.iload_n 0, 1) := by decide +kernel
theorem dX4_withIndirect_7 : decode cX4_withIndirect 7 = .ok (.ireturn, 1) := by decide +kernel
theorem dX4_withIndirect_8 : decode cX4_withIndirect 8 = .ok (.iload_n 0, 1) := by decide +kernel
theorem dX4_withIndirect_9 : decode cX4_withIndirect 9 = .ok (.sipush 268, 3) := by decide +kernel
theorem dX4_withIndirect_12 : decode cX4_withIndirect 12 = .ok (.if_icmp .gt 7, 3) := by decide +kernel
theorem dX4_withIndirect_15 : decode cX4_withIndirect 15 = .ok (.iload_n 0, 1) := by decide +kernel
theorem dX4_withIndirect_16 : decode cX4_withIndirect 16 = .ok (.iconst 1, 1) := by decide +kernel
theorem dX4_withIndirect_17 : decode cX4_withIndirect 17 = .ok (.iadd, 1) := by decide +kernel
theorem dX4_withIndirect_18 : decode cX4_withIndirect 18 = .ok (.ireturn, 1) := by decide +kernel
theorem dX4_withIndirect_19 : decode cX4_withIndirect 19 = .ok (.iload_n 0, 1) := by decide +kernel
theorem dX4_withIndirect_20 : decode cX4_withIndirect 20 = .ok (.iconst 2, 1) := by decide +kernel
theorem dX4_withIndirect_21 : decode cX4_withIndirect 21 = .ok (.iadd, 1) := by decide +kernel
theorem dX4_withIndirect_22 : decode cX4_withIndirect 22 = .ok (.iload_n 0, 1) := by decide +kernel
theorem dX4_withIndirect_23 : decode cX4_withIndirect 23 = .ok (.sipush 268, 3) := by decide +kernel
theorem dX4_withIndirect_26 : decode cX4_withIndirect 26 = .ok (.isub, 1) := by decide +kernel
theorem dX4_withIndirect_27 : decode cX4_withIndirect 27 = .ok (.sipush 256, 3) := by decide +kernel
theorem dX4_withIndirect_30 : decode cX4_withIndirect 30 = .ok (.iadd, 1) := by decide +kernel
theorem dX4_withIndirect_31 : decode cX4_withIndirect 31 = .ok (.iconst 1, 1) := by decide +kernel
theorem dX4_withIndirect_32 : decode cX4_withIndirect 32 = .ok (.isub, 1) := by decide +kernel
theorem dX4_withIndirect_33 : decode cX4_withIndirect 33 = .ok (.sipush 256, 3) := by decide +kernel
theorem dX4_withIndirect_36 : decode cX4_withIndirect 36 = .ok (.idiv, 1) := by decide +kernel
theorem dX4_withIndirect_37 : decode cX4_withIndirect 37 = .ok (.iadd, 1) := by decide +kernel
theorem dX4_withIndirect_38 : decode cX4_withIndirect 38 = .ok (.ireturn, 1) := by decide +kernel
theorem dX7_pointersHold_0 : decode cX7_pointersHold 0 = .ok (.iconst 0, 1) := by decide +kernel
theorem dX7_pointersHold_1 : decode cX7_pointersHold 1 = .ok (.iload_n 2, 1) := by decide +kernel
theorem dX7_pointersHold_2 : decode cX7_pointersHold 2 = .ok (.bipush 12, 2) := by decide +kernel
theorem dX7_pointersHold_4 : decode cX7_pointersHold 4 = .ok (.isub, 1) := by decide +kernel
theorem dX7_pointersHold_5 : decode cX7_pointersHold 5 = .ok (.invokestatic 59, 3) := by decide +kernel
theorem dX7_pointersHold_8 : decode cX7_pointersHold 8 = .ok (.istore_n 3, 1) := by decide +kernel
theorem dX7_pointersHold_9 : decode cX7_pointersHold 9 = .ok (.iconst 0, 1) := by decide +kernel
theorem dX7_pointersHold_10 : decode cX7_pointersHold 10 = .ok (.iload_n 2, 1) := by decide +kernel
theorem dX7_pointersHold_11 : decode cX7_pointersHold 11 = .ok (.sipush 268, 3) := by decide +kernel
theorem dX7_pointersHold_14 : decode cX7_pointersHold 14 = .ok (.isub, 1) := by decide +kernel
theorem dX7_pointersHold_15 : decode cX7_pointersHold 15 = .ok (.invokestatic 59, 3) := by decide +kernel
theorem dX7_pointersHold_18 : decode cX7_pointersHold 18 = .ok (.istore 4, 2) := by decide +kernel
theorem dX7_pointersHold_20 : decode cX7_pointersHold 20 = .ok (.aload_n 0, 1) := by decide +kernel
theorem dX7_pointersHold_21 : decode cX7_pointersHold 21 = .ok (.iload_n 1, 1) := by decide +kernel
theorem dX7_pointersHold_22 : decode cX7_pointersHold 22 = .ok (.bipush 40, 2) := by decide +kernel
theorem dX7_pointersHold_24 : decode cX7_pointersHold 24 = .ok (.iadd, 1) := by decide +kernel
theorem dX7_pointersHold_25 : decode cX7_pointersHold 25 = .ok (.bipush 12, 2) := by decide +kernel
theorem dX7_pointersHold_27 : decode cX7_pointersHold 27 = .ok (.iload_n 2, 1) := by decide +kernel
theorem dX7_pointersHold_28 : decode cX7_pointersHold 28 = .ok (.invokevirtual 152, 3) := by decide +kernel
theorem dX7_pointersHold_31 : decode cX7_pointersHold 31 = .ok (.ifCond .eq 30, 3) := by decide +kernel
theorem dX7_pointersHold_34 : decode cX7_pointersHold 34 = .ok (.aload_n 0, 1) := by decide +kernel
theorem dX7_pointersHold_35 : decode cX7_pointersHold 35 = .ok (.iload_n 1, 1) := by decide +kernel
theorem dX7_pointersHold_36 : decode cX7_pointersHold 36 = .ok (.bipush 88, 2) := by decide +kernel
theorem dX7_pointersHold_38 : decode cX7_pointersHold 38 = .ok (.iadd, 1) := by decide +kernel
theorem dX7_pointersHold_39 : decode cX7_pointersHold 39 = .ok (.iconst 1, 1) := by decide +kernel
theorem dX7_pointersHold_40 : decode cX7_pointersHold 40 = .ok (.iload_n 3, 1) := by decide +kernel
theorem dX7_pointersHold_41 : decode cX7_pointersHold 41 = .ok (.invokevirtual 152, 3) := by decide +kernel
theorem dX7_pointersHold_44 : decode cX7_pointersHold 44 = .ok (.ifCond .eq 17, 3) := by decide +kernel
theorem dX7_pointersHold_47 : decode cX7_pointersHold 47 = .ok (.aload_n 0, 1) := by decide +kernel
theorem dX7_pointersHold_48 : decode cX7_pointersHold 48 = .ok (.iload_n 1, 1) := by decide +kernel
theorem dX7_pointersHold_49 : decode cX7_pointersHold 49 = .ok (.bipush 92, 2) := by decide +kernel
theorem dX7_pointersHold_51 : decode cX7_pointersHold 51 = .ok (.iadd, 1) := by decide +kernel
theorem dX7_pointersHold_52 : decode cX7_pointersHold 52 = .ok (.iconst 1, 1) := by decide +kernel
theorem dX7_pointersHold_53 : decode cX7_pointersHold 53 = .ok (.iload 4, 2) := by decide +kernel
theorem dX7_pointersHold_55 : decode cX7_pointersHold 55 = .ok (.invokevirtual 152, 3) := by decide +kernel
theorem dX7_pointersHold_58 : decode cX7_pointersHold 58 = .ok (.ifCond .ne 5, 3) := by decide +kernel
theorem dX7_pointersHold_61 : decode cX7_pointersHold 61 = .ok (.iconst 0, 1) := by decide +kernel
theorem dX7_pointersHold_62 : decode cX7_pointersHold 62 = .ok (.ireturn, 1) := by decide +kernel
theorem dX7_pointersHold_63 : decode cX7_pointersHold 63 = .ok (.iload_n 3, 1) := by decide +kernel
theorem dX7_pointersHold_64 : decode cX7_pointersHold 64 = .ok (.ifCond .le 31, 3) := by decide +kernel
theorem dX7_pointersHold_67 : decode cX7_pointersHold 67 = .ok (.aload_n 0, 1) := by decide +kernel
theorem dX7_pointersHold_68 : decode cX7_pointersHold 68 = .ok (.aload_n 0, 1) := by decide +kernel
theorem dX7_pointersHold_69 : decode cX7_pointersHold 69 = .ok (.getfield 27, 3) := by decide +kernel
theorem dX7_pointersHold_72 : decode cX7_pointersHold 72 = .ok (.iload_n 1, 1) := by decide +kernel
theorem dX7_pointersHold_73 : decode cX7_pointersHold 73 = .ok (.bipush 88, 2) := by decide +kernel
theorem dX7_pointersHold_75 : decode cX7_pointersHold 75 = .ok (.iadd, 1) := by decide +kernel
theorem dX7_pointersHold_76 : decode cX7_pointersHold 76 = .ok (.invokevirtual 136, 3) := by decide +kernel
theorem dX7_pointersHold_79 : decode cX7_pointersHold 79 = .ok (.sipush 1024, 3) := by decide +kernel
theorem dX7_pointersHold_82 : decode cX7_pointersHold 82 = .ok (.imul, 1) := by decide +kernel
theorem dX7_pointersHold_83 : decode cX7_pointersHold 83 = .ok (.sipush 256, 3) := by decide +kernel
theorem dX7_pointersHold_86 : decode cX7_pointersHold 86 = .ok (.iload_n 3, 1) := by decide +kernel
theorem dX7_pointersHold_87 : decode cX7_pointersHold 87 = .ok (.invokevirtual 152, 3) := by decide +kernel
theorem dX7_pointersHold_90 : decode cX7_pointersHold 90 = .ok (.ifCond .ne 5, 3) := by decide +kernel
theorem dX7_pointersHold_93 : decode cX7_pointersHold 93 = .ok (.iconst 0, 1) := by decide +kernel
theorem dX7_pointersHold_94 : decode cX7_pointersHold 94 = .ok (.ireturn, 1) := by decide +kernel
theorem dX7_pointersHold_95 : decode cX7_pointersHold 95 = .ok (.aload_n 0, 1) := by decide +kernel
theorem dX7_pointersHold_96 : decode cX7_pointersHold 96 = .ok (.getfield 27, 3) := by decide +kernel
theorem dX7_pointersHold_99 : decode cX7_pointersHold 99 = .ok (.iload_n 1, 1) := by decide +kernel
theorem dX7_pointersHold_100 : decode cX7_pointersHold 100 = .ok (.bipush 92, 2) := by decide +kernel
theorem dX7_pointersHold_102 : decode cX7_pointersHold 102 = .ok (.iadd, 1) := by decide +kernel
theorem dX7_pointersHold_103 : decode cX7_pointersHold 103 = .ok (.invokevirtual 136, 3) := by decide +kernel
theorem dX7_pointersHold_106 : decode cX7_pointersHold 106 = .ok (.sipush 1024, 3) := by decide +kernel
theorem dX7_pointersHold_109 : decode cX7_pointersHold 109 = .ok (.imul, 1) := by decide +kernel
theorem dX7_pointersHold_110 : decode cX7_pointersHold 110 = .ok (.istore 5, 2) := by decide +kernel
theorem dX7_pointersHold_112 : decode cX7_pointersHold 112 = .ok (.iload 4, 2) := by decide +kernel
theorem dX7_pointersHold_114 : decode cX7_pointersHold 114 = .ok (.sipush 256, 3) := by decide +kernel
theorem dX7_pointersHold_117 : decode cX7_pointersHold 117 = .ok (.iadd, 1) := by decide +kernel
theorem dX7_pointersHold_118 : decode cX7_pointersHold 118 = .ok (.iconst 1, 1) := by decide +kernel
theorem dX7_pointersHold_119 : decode cX7_pointersHold 119 = .ok (.isub, 1) := by decide +kernel
theorem dX7_pointersHold_120 : decode cX7_pointersHold 120 = .ok (.sipush 256, 3) := by decide +kernel
theorem dX7_pointersHold_123 : decode cX7_pointersHold 123 = .ok (.idiv, 1) := by decide +kernel
theorem dX7_pointersHold_124 : decode cX7_pointersHold 124 = .ok (.istore 6, 2) := by decide +kernel
theorem dX7_pointersHold_126 : decode cX7_pointersHold 126 = .ok (.iload 6, 2) := by decide +kernel
theorem dX7_pointersHold_128 : decode cX7_pointersHold 128 = .ok (.ifCond .le 19, 3) := by decide +kernel
theorem dX7_pointersHold_131 : decode cX7_pointersHold 131 = .ok (.aload_n 0, 1) := by decide +kernel
theorem dX7_pointersHold_132 : decode cX7_pointersHold 132 = .ok (.iload 5, 2) := by decide +kernel
theorem dX7_pointersHold_134 : decode cX7_pointersHold 134 = .ok (.sipush 256, 3) := by decide +kernel
theorem dX7_pointersHold_137 : decode cX7_pointersHold 137 = .ok (.iload 6, 2) := by decide +kernel
theorem dX7_pointersHold_139 : decode cX7_pointersHold 139 = .ok (.invokevirtual 152, 3) := by decide +kernel
theorem dX7_pointersHold_142 : decode cX7_pointersHold 142 = .ok (.ifCond .ne 5, 3) := by decide +kernel
theorem dX7_pointersHold_145 : decode cX7_pointersHold 145 = .ok (.iconst 0, 1) := by decide +kernel
theorem dX7_pointersHold_146 : decode cX7_pointersHold 146 = .ok (.ireturn, 1) := by decide +kernel
theorem dX7_pointersHold_147 : decode cX7_pointersHold 147 = .ok (.iconst 0, 1) := by decide +kernel
theorem dX7_pointersHold_148 : decode cX7_pointersHold 148 = .ok (.istore 7, 2) := by decide +kernel
theorem dX7_pointersHold_150 : decode cX7_pointersHold 150 = .ok (.iload 7, 2) := by decide +kernel
theorem dX7_pointersHold_152 : decode cX7_pointersHold 152 = .ok (.iload 6, 2) := by decide +kernel
theorem dX7_pointersHold_154 : decode cX7_pointersHold 154 = .ok (.if_icmp .ge 48, 3) := by decide +kernel
theorem dX7_pointersHold_157 : decode cX7_pointersHold 157 = .ok (.aload_n 0, 1) := by decide +kernel
theorem dX7_pointersHold_158 : decode cX7_pointersHold 158 = .ok (.aload_n 0, 1) := by decide +kernel
theorem dX7_pointersHold_159 : decode cX7_pointersHold 159 = .ok (.getfield 27, 3) := by decide +kernel
theorem dX7_pointersHold_162 : decode cX7_pointersHold 162 = .ok (.iload 5, 2) := by decide +kernel
theorem dX7_pointersHold_164 : decode cX7_pointersHold 164 = .ok (.iconst 4, 1) := by decide +kernel
theorem dX7_pointersHold_165 : decode cX7_pointersHold 165 = .ok (.iload 7, 2) := by decide +kernel
theorem dX7_pointersHold_167 : decode cX7_pointersHold 167 = .ok (.imul, 1) := by decide +kernel
theorem dX7_pointersHold_168 : decode cX7_pointersHold 168 = .ok (.iadd, 1) := by decide +kernel
theorem dX7_pointersHold_169 : decode cX7_pointersHold 169 = .ok (.invokevirtual 136, 3) := by decide +kernel
theorem dX7_pointersHold_172 : decode cX7_pointersHold 172 = .ok (.sipush 1024, 3) := by decide +kernel
theorem dX7_pointersHold_175 : decode cX7_pointersHold 175 = .ok (.imul, 1) := by decide +kernel
theorem dX7_pointersHold_176 : decode cX7_pointersHold 176 = .ok (.sipush 256, 3) := by decide +kernel
theorem dX7_pointersHold_179 : decode cX7_pointersHold 179 = .ok (.iload 4, 2) := by decide +kernel
theorem dX7_pointersHold_181 : decode cX7_pointersHold 181 = .ok (.sipush 256, 3) := by decide +kernel
theorem dX7_pointersHold_184 : decode cX7_pointersHold 184 = .ok (.iload 7, 2) := by decide +kernel
theorem dX7_pointersHold_186 : decode cX7_pointersHold 186 = .ok (.imul, 1) := by decide +kernel
theorem dX7_pointersHold_187 : decode cX7_pointersHold 187 = .ok (.isub, 1) := by decide +kernel
theorem dX7_pointersHold_188 : decode cX7_pointersHold 188 = .ok (.invokevirtual 152, 3) := by decide +kernel
theorem dX7_pointersHold_191 : decode cX7_pointersHold 191 = .ok (.ifCond .ne 5, 3) := by decide +kernel
theorem dX7_pointersHold_194 : decode cX7_pointersHold 194 = .ok (.iconst 0, 1) := by decide +kernel
theorem dX7_pointersHold_195 : decode cX7_pointersHold 195 = .ok (.ireturn, 1) := by decide +kernel
theorem dX7_pointersHold_196 : decode cX7_pointersHold 196 = .ok (.iinc 7 1, 3) := by decide +kernel
theorem dX7_pointersHold_199 : decode cX7_pointersHold 199 = .ok (.goto (-49), 3) := by decide +kernel
theorem dX7_pointersHold_202 : decode cX7_pointersHold 202 = .ok (.iconst 1, 1) := by decide +kernel
theorem dX7_pointersHold_203 : decode cX7_pointersHold 203 = .ok (.ireturn, 1) := by decide +kernel
theorem dX7_rowHolds_0 : decode cX7_rowHolds 0 = .ok (.iconst 0, 1) := by decide +kernel
theorem dX7_rowHolds_1 : decode cX7_rowHolds 1 = .ok (.istore 4, 2) := by decide +kernel
theorem dX7_rowHolds_3 : decode cX7_rowHolds 3 = .ok (.iload 4, 2) := by decide +kernel
theorem dX7_rowHolds_5 : decode cX7_rowHolds 5 = .ok (.iload_n 2, 1) := by decide +kernel
theorem dX7_rowHolds_6 : decode cX7_rowHolds 6 = .ok (.if_icmp .ge 49, 3) := by decide +kernel
theorem dX7_rowHolds_9 : decode cX7_rowHolds 9 = .ok (.aload_n 0, 1) := by decide +kernel
theorem dX7_rowHolds_10 : decode cX7_rowHolds 10 = .ok (.getfield 27, 3) := by decide +kernel
theorem dX7_rowHolds_13 : decode cX7_rowHolds 13 = .ok (.iload_n 1, 1) := by decide +kernel
theorem dX7_rowHolds_14 : decode cX7_rowHolds 14 = .ok (.iconst 4, 1) := by decide +kernel
theorem dX7_rowHolds_15 : decode cX7_rowHolds 15 = .ok (.iload 4, 2) := by decide +kernel
theorem dX7_rowHolds_17 : decode cX7_rowHolds 17 = .ok (.imul, 1) := by decide +kernel
theorem dX7_rowHolds_18 : decode cX7_rowHolds 18 = .ok (.iadd, 1) := by decide +kernel
theorem dX7_rowHolds_19 : decode cX7_rowHolds 19 = .ok (.invokevirtual 136, 3) := by decide +kernel
theorem dX7_rowHolds_22 : decode cX7_rowHolds 22 = .ok (.istore 5, 2) := by decide +kernel
theorem dX7_rowHolds_24 : decode cX7_rowHolds 24 = .ok (.iload 4, 2) := by decide +kernel
theorem dX7_rowHolds_26 : decode cX7_rowHolds 26 = .ok (.iload_n 3, 1) := by decide +kernel
theorem dX7_rowHolds_27 : decode cX7_rowHolds 27 = .ok (.if_icmp .ge 15, 3) := by decide +kernel
theorem dX7_rowHolds_30 : decode cX7_rowHolds 30 = .ok (.aload_n 0, 1) := by decide +kernel
theorem dX7_rowHolds_31 : decode cX7_rowHolds 31 = .ok (.iload 5, 2) := by decide +kernel
theorem dX7_rowHolds_33 : decode cX7_rowHolds 33 = .ok (.invokevirtual 113, 3) := by decide +kernel
theorem dX7_rowHolds_36 : decode cX7_rowHolds 36 = .ok (.ifCond .ne 13, 3) := by decide +kernel
theorem dX7_rowHolds_39 : decode cX7_rowHolds 39 = .ok (.goto 8, 3) := by decide +kernel
theorem dX7_rowHolds_42 : decode cX7_rowHolds 42 = .ok (.iload 5, 2) := by decide +kernel
theorem dX7_rowHolds_44 : decode cX7_rowHolds 44 = .ok (.ifCond .eq 5, 3) := by decide +kernel
theorem dX7_rowHolds_47 : decode cX7_rowHolds 47 = .ok (.iconst 0, 1) := by decide +kernel
theorem dX7_rowHolds_48 : decode cX7_rowHolds 48 = .ok (.ireturn, 1) := by decide +kernel
theorem dX7_rowHolds_49 : decode cX7_rowHolds 49 = .ok (.iinc 4 1, 3) := by decide +kernel
theorem dX7_rowHolds_52 : decode cX7_rowHolds 52 = .ok (.goto (-49), 3) := by decide +kernel
theorem dX7_rowHolds_55 : decode cX7_rowHolds 55 = .ok (.iconst 1, 1) := by decide +kernel
theorem dX7_rowHolds_56 : decode cX7_rowHolds 56 = .ok (.ireturn, 1) := by decide +kernel
theorem dX7_directoriesHold_0 : decode cX7_directoriesHold 0 = .ok (.iconst 2, 1) := by decide +kernel
theorem dX7_directoriesHold_1 : decode cX7_directoriesHold 1 = .ok (.istore_n 1, 1) := by decide +kernel
theorem dX7_directoriesHold_2 : decode cX7_directoriesHold 2 = .ok (.iload_n 1, 1) := by decide +kernel
theorem dX7_directoriesHold_3 : decode cX7_directoriesHold 3 = .ok (.aload_n 0, 1) := by decide +kernel
theorem dX7_directoriesHold_4 : decode cX7_directoriesHold 4 = .ok (.getfield 30, 3) := by decide +kernel
theorem dX7_directoriesHold_7 : decode cX7_directoriesHold 7 = .ok (.invokevirtual 116, 3) := by decide +kernel
theorem dX7_directoriesHold_10 : decode cX7_directoriesHold 10 = .ok (.if_icmp .gt 83, 3) := by decide +kernel
theorem dX7_directoriesHold_13 : decode cX7_directoriesHold 13 = .ok (.aload_n 0, 1) := by decide +kernel
theorem dX7_directoriesHold_14 : decode cX7_directoriesHold 14 = .ok (.getfield 41, 3) := by decide +kernel
theorem dX7_directoriesHold_17 : decode cX7_directoriesHold 17 = .ok (.iload_n 1, 1) := by decide +kernel
theorem dX7_directoriesHold_18 : decode cX7_directoriesHold 18 = .ok (.invokevirtual 94, 3) := by decide +kernel
theorem dX7_directoriesHold_21 : decode cX7_directoriesHold 21 = .ok (.ifCond .eq 66, 3) := by decide +kernel
theorem dX7_directoriesHold_24 : decode cX7_directoriesHold 24 = .ok (.aload_n 0, 1) := by decide +kernel
theorem dX7_directoriesHold_25 : decode cX7_directoriesHold 25 = .ok (.getfield 45, 3) := by decide +kernel
theorem dX7_directoriesHold_28 : decode cX7_directoriesHold 28 = .ok (.iload_n 1, 1) := by decide +kernel
theorem dX7_directoriesHold_29 : decode cX7_directoriesHold 29 = .ok (.invokevirtual 156, 3) := by decide +kernel
theorem dX7_directoriesHold_32 : decode cX7_directoriesHold 32 = .ok (.aload_n 0, 1) := by decide +kernel
theorem dX7_directoriesHold_33 : decode cX7_directoriesHold 33 = .ok (.getfield 41, 3) := by decide +kernel
theorem dX7_directoriesHold_36 : decode cX7_directoriesHold 36 = .ok (.iload_n 1, 1) := by decide +kernel
theorem dX7_directoriesHold_37 : decode cX7_directoriesHold 37 = .ok (.invokevirtual 161, 3) := by decide +kernel
theorem dX7_directoriesHold_40 : decode cX7_directoriesHold 40 = .ok (.sipush 1024, 3) := by decide +kernel
theorem dX7_directoriesHold_43 : decode cX7_directoriesHold 43 = .ok (.irem, 1) := by decide +kernel
theorem dX7_directoriesHold_44 : decode cX7_directoriesHold 44 = .ok (.ifCond .ne 19, 3) := by decide +kernel
theorem dX7_directoriesHold_47 : decode cX7_directoriesHold 47 = .ok (.aload_n 0, 1) := by decide +kernel
theorem dX7_directoriesHold_48 : decode cX7_directoriesHold 48 = .ok (.iload_n 1, 1) := by decide +kernel
theorem dX7_directoriesHold_49 : decode cX7_directoriesHold 49 = .ok (.invokevirtual 164, 3) := by decide +kernel
theorem dX7_directoriesHold_52 : decode cX7_directoriesHold 52 = .ok (.ifCond .eq 11, 3) := by decide +kernel
theorem dX7_directoriesHold_55 : decode cX7_directoriesHold 55 = .ok (.aload_n 0, 1) := by decide +kernel
theorem dX7_directoriesHold_56 : decode cX7_directoriesHold 56 = .ok (.iload_n 1, 1) := by decide +kernel
theorem dX7_directoriesHold_57 : decode cX7_directoriesHold 57 = .ok (.invokevirtual 167, 3) := by decide +kernel
theorem dX7_directoriesHold_60 : decode cX7_directoriesHold 60 = .ok (.ifCond .ne 5, 3) := by decide +kernel
theorem dX7_directoriesHold_63 : decode cX7_directoriesHold 63 = .ok (.iconst 0, 1) := by decide +kernel
theorem dX7_directoriesHold_64 : decode cX7_directoriesHold 64 = .ok (.ireturn, 1) := by decide +kernel
theorem dX7_directoriesHold_65 : decode cX7_directoriesHold 65 = .ok (.iload_n 1, 1) := by decide +kernel
theorem dX7_directoriesHold_66 : decode cX7_directoriesHold 66 = .ok (.aload_n 0, 1) := by decide +kernel
theorem dX7_directoriesHold_67 : decode cX7_directoriesHold 67 = .ok (.getfield 24, 3) := by decide +kernel
theorem dX7_directoriesHold_70 : decode cX7_directoriesHold 70 = .ok (.arraylength, 1) := by decide +kernel
theorem dX7_directoriesHold_71 : decode cX7_directoriesHold 71 = .ok (.if_icmp .ge 16, 3) := by decide +kernel
theorem dX7_directoriesHold_74 : decode cX7_directoriesHold 74 = .ok (.aload_n 0, 1) := by decide +kernel
theorem dX7_directoriesHold_75 : decode cX7_directoriesHold 75 = .ok (.getfield 24, 3) := by decide +kernel
theorem dX7_directoriesHold_78 : decode cX7_directoriesHold 78 = .ok (.iload_n 1, 1) := by decide +kernel
theorem dX7_directoriesHold_79 : decode cX7_directoriesHold 79 = .ok (.aload_n 0, 1) := by decide +kernel
theorem dX7_directoriesHold_80 : decode cX7_directoriesHold 80 = .ok (.getfield 45, 3) := by decide +kernel
theorem dX7_directoriesHold_83 : decode cX7_directoriesHold 83 = .ok (.invokevirtual 170, 3) := by decide +kernel
theorem dX7_directoriesHold_86 : decode cX7_directoriesHold 86 = .ok (.iastore, 1) := by decide +kernel
theorem dX7_directoriesHold_87 : decode cX7_directoriesHold 87 = .ok (.iinc 1 1, 3) := by decide +kernel
theorem dX7_directoriesHold_90 : decode cX7_directoriesHold 90 = .ok (.goto (-88), 3) := by decide +kernel
theorem dX7_directoriesHold_93 : decode cX7_directoriesHold 93 = .ok (.iconst 1, 1) := by decide +kernel
theorem dX7_directoriesHold_94 : decode cX7_directoriesHold 94 = .ok (.ireturn, 1) := by decide +kernel
theorem dX4_isDirectory_0 : decode cX4_isDirectory 0 = .ok (.aload_n 0, 1) := by decide +kernel
theorem dX4_isDirectory_1 : decode cX4_isDirectory 1 = .ok (.getfield 9, 3) := by decide +kernel
theorem dX4_isDirectory_4 : decode cX4_isDirectory 4 = .ok (.aload_n 0, 1) := by decide +kernel
theorem dX4_isDirectory_5 : decode cX4_isDirectory 5 = .ok (.getfield 15, 3) := by decide +kernel
theorem dX4_isDirectory_8 : decode cX4_isDirectory 8 = .ok (.iload_n 1, 1) := by decide +kernel
theorem dX4_isDirectory_9 : decode cX4_isDirectory 9 = .ok (.invokevirtual 23, 3) := by decide +kernel
theorem dX4_isDirectory_12 : decode cX4_isDirectory 12 = .ok (.invokevirtual 29, 3) := by decide +kernel
theorem dX4_isDirectory_15 : decode cX4_isDirectory 15 = .ok (.sipush 16877, 3) := by decide +kernel
theorem dX4_isDirectory_18 : decode cX4_isDirectory 18 = .ok (.if_icmp .ne 7, 3) := by decide +kernel
theorem dX4_isDirectory_21 : decode cX4_isDirectory 21 = .ok (.iconst 1, 1) := by decide +kernel
theorem dX4_isDirectory_22 : decode cX4_isDirectory 22 = .ok (.goto 4, 3) := by decide +kernel
theorem dX4_isDirectory_25 : decode cX4_isDirectory 25 = .ok (.iconst 0, 1) := by decide +kernel
theorem dX4_isDirectory_26 : decode cX4_isDirectory 26 = .ok (.ireturn, 1) := by decide +kernel
theorem dX5_read_0 : decode cX5_read 0 = .ok (.aload_n 0, 1) := by decide +kernel
theorem dX5_read_1 : decode cX5_read 1 = .ok (.iconst 0, 1) := by decide +kernel
theorem dX5_read_2 : decode cX5_read 2 = .ok (.putfield 23, 3) := by decide +kernel
theorem dX5_read_5 : decode cX5_read 5 = .ok (.sipush 512, 3) := by decide +kernel
theorem dX5_read_8 : decode cX5_read 8 = .ok (.aload_n 0, 1) := by decide +kernel
theorem dX5_read_9 : decode cX5_read 9 = .ok (.getfield 19, 3) := by decide +kernel
theorem dX5_read_12 : decode cX5_read 12 = .ok (.iload_n 1, 1) := by decide +kernel
theorem dX5_read_13 : decode cX5_read 13 = .ok (.invokevirtual 27, 3) := by decide +kernel
theorem dX5_read_16 : decode cX5_read 16 = .ok (.invokestatic 33, 3) := by decide +kernel
theorem dX5_read_19 : decode cX5_read 19 = .ok (.invokestatic 36, 3) := by decide +kernel
theorem dX5_read_22 : decode cX5_read 22 = .ok (.istore_n 2, 1) := by decide +kernel
theorem dX5_read_23 : decode cX5_read 23 = .ok (.iconst 0, 1) := by decide +kernel
theorem dX5_read_24 : decode cX5_read 24 = .ok (.istore_n 3, 1) := by decide +kernel
theorem dX5_read_25 : decode cX5_read 25 = .ok (.iload_n 3, 1) := by decide +kernel
theorem dX5_read_26 : decode cX5_read 26 = .ok (.iload_n 2, 1) := by decide +kernel
theorem dX5_read_27 : decode cX5_read 27 = .ok (.if_icmp .ge 98, 3) := by decide +kernel
theorem dX5_read_30 : decode cX5_read 30 = .ok (.aload_n 0, 1) := by decide +kernel
theorem dX5_read_31 : decode cX5_read 31 = .ok (.getfield 19, 3) := by decide +kernel
theorem dX5_read_34 : decode cX5_read 34 = .ok (.iload_n 1, 1) := by decide +kernel
theorem dX5_read_35 : decode cX5_read 35 = .ok (.iload_n 3, 1) := by decide +kernel
theorem dX5_read_36 : decode cX5_read 36 = .ok (.invokevirtual 42, 3) := by decide +kernel
theorem dX5_read_39 : decode cX5_read 39 = .ok (.sipush 1024, 3) := by decide +kernel
theorem dX5_read_42 : decode cX5_read 42 = .ok (.imul, 1) := by decide +kernel
theorem dX5_read_43 : decode cX5_read 43 = .ok (.istore 4, 2) := by decide +kernel
theorem dX5_read_45 : decode cX5_read 45 = .ok (.iconst 0, 1) := by decide +kernel
theorem dX5_read_46 : decode cX5_read 46 = .ok (.istore 5, 2) := by decide +kernel
theorem dX5_read_48 : decode cX5_read 48 = .ok (.iload 5, 2) := by decide +kernel
theorem dX5_read_50 : decode cX5_read 50 = .ok (.sipush 1024, 3) := by decide +kernel
theorem dX5_read_53 : decode cX5_read 53 = .ok (.if_icmp .ge 66, 3) := by decide +kernel
theorem dX5_read_56 : decode cX5_read 56 = .ok (.aload_n 0, 1) := by decide +kernel
theorem dX5_read_57 : decode cX5_read 57 = .ok (.getfield 23, 3) := by decide +kernel
theorem dX5_read_60 : decode cX5_read 60 = .ok (.aload_n 0, 1) := by decide +kernel
theorem dX5_read_61 : decode cX5_read 61 = .ok (.getfield 9, 3) := by decide +kernel
theorem dX5_read_64 : decode cX5_read 64 = .ok (.arraylength, 1) := by decide +kernel
theorem dX5_read_65 : decode cX5_read 65 = .ok (.if_icmp .ge 54, 3) := by decide +kernel
theorem dX5_read_68 : decode cX5_read 68 = .ok (.aload_n 0, 1) := by decide +kernel
theorem dX5_read_69 : decode cX5_read 69 = .ok (.getfield 9, 3) := by decide +kernel
theorem dX5_read_72 : decode cX5_read 72 = .ok (.aload_n 0, 1) := by decide +kernel
theorem dX5_read_73 : decode cX5_read 73 = .ok (.getfield 23, 3) := by decide +kernel
theorem dX5_read_76 : decode cX5_read 76 = .ok (.iload 4, 2) := by decide +kernel
theorem dX5_read_78 : decode cX5_read 78 = .ok (.iload 5, 2) := by decide +kernel
theorem dX5_read_80 : decode cX5_read 80 = .ok (.iadd, 1) := by decide +kernel
theorem dX5_read_81 : decode cX5_read 81 = .ok (.iastore, 1) := by decide +kernel
theorem dX5_read_82 : decode cX5_read 82 = .ok (.aload_n 0, 1) := by decide +kernel
theorem dX5_read_83 : decode cX5_read 83 = .ok (.dup, 1) := by decide +kernel
theorem dX5_read_84 : decode cX5_read 84 = .ok (.getfield 23, 3) := by decide +kernel
theorem dX5_read_87 : decode cX5_read 87 = .ok (.iconst 1, 1) := by decide +kernel
theorem dX5_read_88 : decode cX5_read 88 = .ok (.iadd, 1) := by decide +kernel
theorem dX5_read_89 : decode cX5_read 89 = .ok (.putfield 23, 3) := by decide +kernel
theorem dX5_read_92 : decode cX5_read 92 = .ok (.iload 5, 2) := by decide +kernel
theorem dX5_read_94 : decode cX5_read 94 = .ok (.bipush 8, 2) := by decide +kernel
theorem dX5_read_96 : decode cX5_read 96 = .ok (.aload_n 0, 1) := by decide +kernel
theorem dX5_read_97 : decode cX5_read 97 = .ok (.getfield 15, 3) := by decide +kernel
theorem dX5_read_100 : decode cX5_read 100 = .ok (.iload 4, 2) := by decide +kernel
theorem dX5_read_102 : decode cX5_read 102 = .ok (.iload 5, 2) := by decide +kernel
theorem dX5_read_104 : decode cX5_read 104 = .ok (.iadd, 1) := by decide +kernel
theorem dX5_read_105 : decode cX5_read 105 = .ok (.iconst 4, 1) := by decide +kernel
theorem dX5_read_106 : decode cX5_read 106 = .ok (.iadd, 1) := by decide +kernel
theorem dX5_read_107 : decode cX5_read 107 = .ok (.invokevirtual 45, 3) := by decide +kernel
theorem dX5_read_110 : decode cX5_read 110 = .ok (.invokestatic 50, 3) := by decide +kernel
theorem dX5_read_113 : decode cX5_read 113 = .ok (.iadd, 1) := by decide +kernel
theorem dX5_read_114 : decode cX5_read 114 = .ok (.istore 5, 2) := by decide +kernel
theorem dX5_read_116 : decode cX5_read 116 = .ok (.goto (-68), 3) := by decide +kernel
theorem dX5_read_119 : decode cX5_read 119 = .ok (.iinc 3 1, 3) := by decide +kernel
theorem dX5_read_122 : decode cX5_read 122 = .ok (.goto (-97), 3) := by decide +kernel
theorem dX5_read_125 : decode cX5_read 125 = .ok (.return_, 1) := by decide +kernel
theorem dX4_size_0 : decode cX4_size 0 = .ok (.aload_n 0, 1) := by decide +kernel
theorem dX4_size_1 : decode cX4_size 1 = .ok (.getfield 9, 3) := by decide +kernel
theorem dX4_size_4 : decode cX4_size 4 = .ok (.aload_n 0, 1) := by decide +kernel
theorem dX4_size_5 : decode cX4_size 5 = .ok (.getfield 15, 3) := by decide +kernel
theorem dX4_size_8 : decode cX4_size 8 = .ok (.iload_n 1, 1) := by decide +kernel
theorem dX4_size_9 : decode cX4_size 9 = .ok (.invokevirtual 23, 3) := by decide +kernel
theorem dX4_size_12 : decode cX4_size 12 = .ok (.iconst 4, 1) := by decide +kernel
theorem dX4_size_13 : decode cX4_size 13 = .ok (.iadd, 1) := by decide +kernel
theorem dX4_size_14 : decode cX4_size 14 = .ok (.invokevirtual 34, 3) := by decide +kernel
theorem dX4_size_17 : decode cX4_size 17 = .ok (.ireturn, 1) := by decide +kernel
theorem dX4_blockOf_0 : decode cX4_blockOf 0 = .ok (.aload_n 0, 1) := by decide +kernel
theorem dX4_blockOf_1 : decode cX4_blockOf 1 = .ok (.getfield 9, 3) := by decide +kernel
theorem dX4_blockOf_4 : decode cX4_blockOf 4 = .ok (.aload_n 0, 1) := by decide +kernel
theorem dX4_blockOf_5 : decode cX4_blockOf 5 = .ok (.aload_n 0, 1) := by decide +kernel
theorem dX4_blockOf_6 : decode cX4_blockOf 6 = .ok (.getfield 15, 3) := by decide +kernel
theorem dX4_blockOf_9 : decode cX4_blockOf 9 = .ok (.iload_n 1, 1) := by decide +kernel
theorem dX4_blockOf_10 : decode cX4_blockOf 10 = .ok (.invokevirtual 23, 3) := by decide +kernel
theorem dX4_blockOf_13 : decode cX4_blockOf 13 = .ok (.iload_n 2, 1) := by decide +kernel
theorem dX4_blockOf_14 : decode cX4_blockOf 14 = .ok (.invokevirtual 74, 3) := by decide +kernel
theorem dX4_blockOf_17 : decode cX4_blockOf 17 = .ok (.invokevirtual 34, 3) := by decide +kernel
theorem dX4_blockOf_20 : decode cX4_blockOf 20 = .ok (.ireturn, 1) := by decide +kernel
theorem dX4_pointerAt_0 : decode cX4_pointerAt 0 = .ok (.iload_n 2, 1) := by decide +kernel
theorem dX4_pointerAt_1 : decode cX4_pointerAt 1 = .ok (.bipush 12, 2) := by decide +kernel
theorem dX4_pointerAt_3 : decode cX4_pointerAt 3 = .ok (.if_icmp .ge 12, 3) := by decide +kernel
theorem dX4_pointerAt_6 : decode cX4_pointerAt 6 = .ok (.iload_n 1, 1) := by decide +kernel
theorem dX4_pointerAt_7 : decode cX4_pointerAt 7 = .ok (.bipush 40, 2) := by decide +kernel
theorem dX4_pointerAt_9 : decode cX4_pointerAt 9 = .ok (.iadd, 1) := by decide +kernel
theorem dX4_pointerAt_10 : decode cX4_pointerAt 10 = .ok (.iconst 4, 1) := by decide +kernel
theorem dX4_pointerAt_11 : decode cX4_pointerAt 11 = .ok (.iload_n 2, 1) := by decide +kernel
theorem dX4_pointerAt_12 : decode cX4_pointerAt 12 = .ok (.imul, 1) := by decide +kernel
theorem dX4_pointerAt_13 : decode cX4_pointerAt 13 = .ok (.iadd, 1) := by decide +kernel
theorem dX4_pointerAt_14 : decode cX4_pointerAt 14 = .ok (.ireturn, 1) := by decide +kernel
theorem dX4_pointerAt_15 : decode cX4_pointerAt 15 = .ok (.iload_n 2, 1) := by decide +kernel
theorem dX4_pointerAt_16 : decode cX4_pointerAt 16 = .ok (.sipush 268, 3) := by decide +kernel
theorem dX4_pointerAt_19 : decode cX4_pointerAt 19 = .ok (.if_icmp .ge 26, 3) := by decide +kernel
theorem dX4_pointerAt_22 : decode cX4_pointerAt 22 = .ok (.aload_n 0, 1) := by decide +kernel
theorem dX4_pointerAt_23 : decode cX4_pointerAt 23 = .ok (.getfield 9, 3) := by decide +kernel
theorem dX4_pointerAt_26 : decode cX4_pointerAt 26 = .ok (.iload_n 1, 1) := by decide +kernel
theorem dX4_pointerAt_27 : decode cX4_pointerAt 27 = .ok (.bipush 88, 2) := by decide +kernel
theorem dX4_pointerAt_29 : decode cX4_pointerAt 29 = .ok (.iadd, 1) := by decide +kernel
theorem dX4_pointerAt_30 : decode cX4_pointerAt 30 = .ok (.invokevirtual 34, 3) := by decide +kernel
theorem dX4_pointerAt_33 : decode cX4_pointerAt 33 = .ok (.sipush 1024, 3) := by decide +kernel
theorem dX4_pointerAt_36 : decode cX4_pointerAt 36 = .ok (.imul, 1) := by decide +kernel
theorem dX4_pointerAt_37 : decode cX4_pointerAt 37 = .ok (.iconst 4, 1) := by decide +kernel
theorem dX4_pointerAt_38 : decode cX4_pointerAt 38 = .ok (.iload_n 2, 1) := by decide +kernel
theorem dX4_pointerAt_39 : decode cX4_pointerAt 39 = .ok (.bipush 12, 2) := by decide +kernel
theorem dX4_pointerAt_41 : decode cX4_pointerAt 41 = .ok (.isub, 1) := by decide +kernel
theorem dX4_pointerAt_42 : decode cX4_pointerAt 42 = .ok (.imul, 1) := by decide +kernel
theorem dX4_pointerAt_43 : decode cX4_pointerAt 43 = .ok (.iadd, 1) := by decide +kernel
theorem dX4_pointerAt_44 : decode cX4_pointerAt 44 = .ok (.ireturn, 1) := by decide +kernel
theorem dX4_pointerAt_45 : decode cX4_pointerAt 45 = .ok (.aload_n 0, 1) := by decide +kernel
theorem dX4_pointerAt_46 : decode cX4_pointerAt 46 = .ok (.getfield 9, 3) := by decide +kernel
theorem dX4_pointerAt_49 : decode cX4_pointerAt 49 = .ok (.iload_n 1, 1) := by decide +kernel
theorem dX4_pointerAt_50 : decode cX4_pointerAt 50 = .ok (.bipush 92, 2) := by decide +kernel
theorem dX4_pointerAt_52 : decode cX4_pointerAt 52 = .ok (.iadd, 1) := by decide +kernel
theorem dX4_pointerAt_53 : decode cX4_pointerAt 53 = .ok (.invokevirtual 34, 3) := by decide +kernel
theorem dX4_pointerAt_56 : decode cX4_pointerAt 56 = .ok (.sipush 1024, 3) := by decide +kernel
theorem dX4_pointerAt_59 : decode cX4_pointerAt 59 = .ok (.imul, 1) := by decide +kernel
theorem dX4_pointerAt_60 : decode cX4_pointerAt 60 = .ok (.iconst 4, 1) := by decide +kernel
theorem dX4_pointerAt_61 : decode cX4_pointerAt 61 = .ok (.iload_n 2, 1) := by decide +kernel
theorem dX4_pointerAt_62 : decode cX4_pointerAt 62 = .ok (.sipush 268, 3) := by decide +kernel
theorem dX4_pointerAt_65 : decode cX4_pointerAt 65 = .ok (.isub, 1) := by decide +kernel
theorem dX4_pointerAt_66 : decode cX4_pointerAt 66 = .ok (.sipush 256, 3) := by decide +kernel
theorem dX4_pointerAt_69 : decode cX4_pointerAt 69 = .ok (.idiv, 1) := by decide +kernel
theorem dX4_pointerAt_70 : decode cX4_pointerAt 70 = .ok (.imul, 1) := by decide +kernel
theorem dX4_pointerAt_71 : decode cX4_pointerAt 71 = .ok (.iadd, 1) := by decide +kernel
theorem dX4_pointerAt_72 : decode cX4_pointerAt 72 = .ok (.istore_n 3, 1) := by decide +kernel
theorem dX4_pointerAt_73 : decode cX4_pointerAt 73 = .ok (.aload_n 0, 1) := by decide +kernel
theorem dX4_pointerAt_74 : decode cX4_pointerAt 74 = .ok (.getfield 9, 3) := by decide +kernel
theorem dX4_pointerAt_77 : decode cX4_pointerAt 77 = .ok (.iload_n 3, 1) := by decide +kernel
theorem dX4_pointerAt_78 : decode cX4_pointerAt 78 = .ok (.invokevirtual 34, 3) := by decide +kernel
theorem dX4_pointerAt_81 : decode cX4_pointerAt 81 = .ok (.sipush 1024, 3) := by decide +kernel
theorem dX4_pointerAt_84 : decode cX4_pointerAt 84 = .ok (.imul, 1) := by decide +kernel
theorem dX4_pointerAt_85 : decode cX4_pointerAt 85 = .ok (.iconst 4, 1) := by decide +kernel
theorem dX4_pointerAt_86 : decode cX4_pointerAt 86 = .ok (.iload_n 2, 1) := by decide +kernel
theorem dX4_pointerAt_87 : decode cX4_pointerAt 87 = .ok (.sipush 268, 3) := by decide +kernel
theorem dX4_pointerAt_90 : decode cX4_pointerAt 90 = .ok (.isub, 1) := by decide +kernel
theorem dX4_pointerAt_91 : decode cX4_pointerAt 91 = .ok (.sipush 256, 3) := by decide +kernel
theorem dX4_pointerAt_94 : decode cX4_pointerAt 94 = .ok (.irem, 1) := by decide +kernel
theorem dX4_pointerAt_95 : decode cX4_pointerAt 95 = .ok (.imul, 1) := by decide +kernel
theorem dX4_pointerAt_96 : decode cX4_pointerAt 96 = .ok (.iadd, 1) := by decide +kernel
theorem dX4_pointerAt_97 : decode cX4_pointerAt 97 = .ok (.ireturn, 1) := by decide +kernel
theorem dX7_dotsHold_0 : decode cX7_dotsHold 0 = .ok (.aload_n 0, 1) := by decide +kernel
theorem dX7_dotsHold_1 : decode cX7_dotsHold 1 = .ok (.getfield 45, 3) := by decide +kernel
theorem dX7_dotsHold_4 : decode cX7_dotsHold 4 = .ok (.invokevirtual 173, 3) := by decide +kernel
theorem dX7_dotsHold_7 : decode cX7_dotsHold 7 = .ok (.iconst 2, 1) := by decide +kernel
theorem dX7_dotsHold_8 : decode cX7_dotsHold 8 = .ok (.if_icmp .lt 131, 3) := by decide +kernel
theorem dX7_dotsHold_11 : decode cX7_dotsHold 11 = .ok (.aload_n 0, 1) := by decide +kernel
theorem dX7_dotsHold_12 : decode cX7_dotsHold 12 = .ok (.iconst 0, 1) := by decide +kernel
theorem dX7_dotsHold_13 : decode cX7_dotsHold 13 = .ok (.invokevirtual 176, 3) := by decide +kernel
theorem dX7_dotsHold_16 : decode cX7_dotsHold 16 = .ok (.ifCond .eq 123, 3) := by decide +kernel
theorem dX7_dotsHold_19 : decode cX7_dotsHold 19 = .ok (.aload_n 0, 1) := by decide +kernel
theorem dX7_dotsHold_20 : decode cX7_dotsHold 20 = .ok (.iconst 1, 1) := by decide +kernel
theorem dX7_dotsHold_21 : decode cX7_dotsHold 21 = .ok (.invokevirtual 176, 3) := by decide +kernel
theorem dX7_dotsHold_24 : decode cX7_dotsHold 24 = .ok (.ifCond .eq 115, 3) := by decide +kernel
theorem dX7_dotsHold_27 : decode cX7_dotsHold 27 = .ok (.aload_n 0, 1) := by decide +kernel
theorem dX7_dotsHold_28 : decode cX7_dotsHold 28 = .ok (.getfield 45, 3) := by decide +kernel
theorem dX7_dotsHold_31 : decode cX7_dotsHold 31 = .ok (.iconst 0, 1) := by decide +kernel
theorem dX7_dotsHold_32 : decode cX7_dotsHold 32 = .ok (.invokevirtual 179, 3) := by decide +kernel
theorem dX7_dotsHold_35 : decode cX7_dotsHold 35 = .ok (.iload_n 1, 1) := by decide +kernel
theorem dX7_dotsHold_36 : decode cX7_dotsHold 36 = .ok (.if_icmp .ne 103, 3) := by decide +kernel
theorem dX7_dotsHold_39 : decode cX7_dotsHold 39 = .ok (.aload_n 0, 1) := by decide +kernel
theorem dX7_dotsHold_40 : decode cX7_dotsHold 40 = .ok (.getfield 45, 3) := by decide +kernel
theorem dX7_dotsHold_43 : decode cX7_dotsHold 43 = .ok (.iconst 0, 1) := by decide +kernel
theorem dX7_dotsHold_44 : decode cX7_dotsHold 44 = .ok (.invokevirtual 182, 3) := by decide +kernel
theorem dX7_dotsHold_47 : decode cX7_dotsHold 47 = .ok (.bipush 12, 2) := by decide +kernel
theorem dX7_dotsHold_49 : decode cX7_dotsHold 49 = .ok (.if_icmp .ne 90, 3) := by decide +kernel
theorem dX7_dotsHold_52 : decode cX7_dotsHold 52 = .ok (.aload_n 0, 1) := by decide +kernel
theorem dX7_dotsHold_53 : decode cX7_dotsHold 53 = .ok (.getfield 45, 3) := by decide +kernel
theorem dX7_dotsHold_56 : decode cX7_dotsHold 56 = .ok (.iconst 0, 1) := by decide +kernel
theorem dX7_dotsHold_57 : decode cX7_dotsHold 57 = .ok (.invokevirtual 185, 3) := by decide +kernel
theorem dX7_dotsHold_60 : decode cX7_dotsHold 60 = .ok (.iconst 1, 1) := by decide +kernel
theorem dX7_dotsHold_61 : decode cX7_dotsHold 61 = .ok (.if_icmp .ne 78, 3) := by decide +kernel
theorem dX7_dotsHold_64 : decode cX7_dotsHold 64 = .ok (.aload_n 0, 1) := by decide +kernel
theorem dX7_dotsHold_65 : decode cX7_dotsHold 65 = .ok (.getfield 45, 3) := by decide +kernel
theorem dX7_dotsHold_68 : decode cX7_dotsHold 68 = .ok (.iconst 0, 1) := by decide +kernel
theorem dX7_dotsHold_69 : decode cX7_dotsHold 69 = .ok (.iconst 0, 1) := by decide +kernel
theorem dX7_dotsHold_70 : decode cX7_dotsHold 70 = .ok (.invokevirtual 188, 3) := by decide +kernel
theorem dX7_dotsHold_73 : decode cX7_dotsHold 73 = .ok (.bipush 46, 2) := by decide +kernel
theorem dX7_dotsHold_75 : decode cX7_dotsHold 75 = .ok (.if_icmp .ne 64, 3) := by decide +kernel
theorem dX7_dotsHold_78 : decode cX7_dotsHold 78 = .ok (.aload_n 0, 1) := by decide +kernel
theorem dX7_dotsHold_79 : decode cX7_dotsHold 79 = .ok (.getfield 45, 3) := by decide +kernel
theorem dX7_dotsHold_82 : decode cX7_dotsHold 82 = .ok (.iconst 1, 1) := by decide +kernel
theorem dX7_dotsHold_83 : decode cX7_dotsHold 83 = .ok (.invokevirtual 185, 3) := by decide +kernel
theorem dX7_dotsHold_86 : decode cX7_dotsHold 86 = .ok (.iconst 2, 1) := by decide +kernel
theorem dX7_dotsHold_87 : decode cX7_dotsHold 87 = .ok (.if_icmp .ne 52, 3) := by decide +kernel
theorem dX7_dotsHold_90 : decode cX7_dotsHold 90 = .ok (.aload_n 0, 1) := by decide +kernel
theorem dX7_dotsHold_91 : decode cX7_dotsHold 91 = .ok (.getfield 45, 3) := by decide +kernel
theorem dX7_dotsHold_94 : decode cX7_dotsHold 94 = .ok (.iconst 1, 1) := by decide +kernel
theorem dX7_dotsHold_95 : decode cX7_dotsHold 95 = .ok (.iconst 0, 1) := by decide +kernel
theorem dX7_dotsHold_96 : decode cX7_dotsHold 96 = .ok (.invokevirtual 188, 3) := by decide +kernel
theorem dX7_dotsHold_99 : decode cX7_dotsHold 99 = .ok (.bipush 46, 2) := by decide +kernel
theorem dX7_dotsHold_101 : decode cX7_dotsHold 101 = .ok (.if_icmp .ne 38, 3) := by decide +kernel
theorem dX7_dotsHold_104 : decode cX7_dotsHold 104 = .ok (.aload_n 0, 1) := by decide +kernel
theorem dX7_dotsHold_105 : decode cX7_dotsHold 105 = .ok (.getfield 45, 3) := by decide +kernel
theorem dX7_dotsHold_108 : decode cX7_dotsHold 108 = .ok (.iconst 1, 1) := by decide +kernel
theorem dX7_dotsHold_109 : decode cX7_dotsHold 109 = .ok (.iconst 1, 1) := by decide +kernel
theorem dX7_dotsHold_110 : decode cX7_dotsHold 110 = .ok (.invokevirtual 188, 3) := by decide +kernel
theorem dX7_dotsHold_113 : decode cX7_dotsHold 113 = .ok (.bipush 46, 2) := by decide +kernel
theorem dX7_dotsHold_115 : decode cX7_dotsHold 115 = .ok (.if_icmp .ne 24, 3) := by decide +kernel
theorem dX7_dotsHold_118 : decode cX7_dotsHold 118 = .ok (.aload_n 0, 1) := by decide +kernel
theorem dX7_dotsHold_119 : decode cX7_dotsHold 119 = .ok (.getfield 41, 3) := by decide +kernel
theorem dX7_dotsHold_122 : decode cX7_dotsHold 122 = .ok (.aload_n 0, 1) := by decide +kernel
theorem dX7_dotsHold_123 : decode cX7_dotsHold 123 = .ok (.getfield 45, 3) := by decide +kernel
theorem dX7_dotsHold_126 : decode cX7_dotsHold 126 = .ok (.invokevirtual 170, 3) := by decide +kernel
theorem dX7_dotsHold_129 : decode cX7_dotsHold 129 = .ok (.invokevirtual 94, 3) := by decide +kernel
theorem dX7_dotsHold_132 : decode cX7_dotsHold 132 = .ok (.ifCond .eq 7, 3) := by decide +kernel
theorem dX7_dotsHold_135 : decode cX7_dotsHold 135 = .ok (.iconst 1, 1) := by decide +kernel
theorem dX7_dotsHold_136 : decode cX7_dotsHold 136 = .ok (.goto 4, 3) := by decide +kernel
theorem dX7_dotsHold_139 : decode cX7_dotsHold 139 = .ok (.iconst 0, 1) := by decide +kernel
theorem dX7_dotsHold_140 : decode cX7_dotsHold 140 = .ok (.ireturn, 1) := by decide +kernel
theorem dX5_count_0 : decode cX5_count 0 = .ok (.aload_n 0, 1) := by decide +kernel
theorem dX5_count_1 : decode cX5_count 1 = .ok (.getfield 23, 3) := by decide +kernel
theorem dX5_count_4 : decode cX5_count 4 = .ok (.ireturn, 1) := by decide +kernel
theorem dX7_entryHolds_0 : decode cX7_entryHolds 0 = .ok (.aload_n 0, 1) := by decide +kernel
theorem dX7_entryHolds_1 : decode cX7_entryHolds 1 = .ok (.getfield 45, 3) := by decide +kernel
theorem dX7_entryHolds_4 : decode cX7_entryHolds 4 = .ok (.iload_n 1, 1) := by decide +kernel
theorem dX7_entryHolds_5 : decode cX7_entryHolds 5 = .ok (.invokevirtual 200, 3) := by decide +kernel
theorem dX7_entryHolds_8 : decode cX7_entryHolds 8 = .ok (.istore_n 2, 1) := by decide +kernel
theorem dX7_entryHolds_9 : decode cX7_entryHolds 9 = .ok (.aload_n 0, 1) := by decide +kernel
theorem dX7_entryHolds_10 : decode cX7_entryHolds 10 = .ok (.getfield 45, 3) := by decide +kernel
theorem dX7_entryHolds_13 : decode cX7_entryHolds 13 = .ok (.iload_n 1, 1) := by decide +kernel
theorem dX7_entryHolds_14 : decode cX7_entryHolds 14 = .ok (.invokevirtual 182, 3) := by decide +kernel
theorem dX7_entryHolds_17 : decode cX7_entryHolds 17 = .ok (.istore_n 3, 1) := by decide +kernel
theorem dX7_entryHolds_18 : decode cX7_entryHolds 18 = .ok (.aload_n 0, 1) := by decide +kernel
theorem dX7_entryHolds_19 : decode cX7_entryHolds 19 = .ok (.getfield 45, 3) := by decide +kernel
theorem dX7_entryHolds_22 : decode cX7_entryHolds 22 = .ok (.iload_n 1, 1) := by decide +kernel
theorem dX7_entryHolds_23 : decode cX7_entryHolds 23 = .ok (.invokevirtual 179, 3) := by decide +kernel
theorem dX7_entryHolds_26 : decode cX7_entryHolds 26 = .ok (.istore 4, 2) := by decide +kernel
theorem dX7_entryHolds_28 : decode cX7_entryHolds 28 = .ok (.iload_n 3, 1) := by decide +kernel
theorem dX7_entryHolds_29 : decode cX7_entryHolds 29 = .ok (.bipush 12, 2) := by decide +kernel
theorem dX7_entryHolds_31 : decode cX7_entryHolds 31 = .ok (.if_icmp .lt 38, 3) := by decide +kernel
theorem dX7_entryHolds_34 : decode cX7_entryHolds 34 = .ok (.iload_n 3, 1) := by decide +kernel
theorem dX7_entryHolds_35 : decode cX7_entryHolds 35 = .ok (.iconst 4, 1) := by decide +kernel
theorem dX7_entryHolds_36 : decode cX7_entryHolds 36 = .ok (.irem, 1) := by decide +kernel
theorem dX7_entryHolds_37 : decode cX7_entryHolds 37 = .ok (.ifCond .ne 32, 3) := by decide +kernel
theorem dX7_entryHolds_40 : decode cX7_entryHolds 40 = .ok (.iload_n 2, 1) := by decide +kernel
theorem dX7_entryHolds_41 : decode cX7_entryHolds 41 = .ok (.sipush 1024, 3) := by decide +kernel
theorem dX7_entryHolds_44 : decode cX7_entryHolds 44 = .ok (.irem, 1) := by decide +kernel
theorem dX7_entryHolds_45 : decode cX7_entryHolds 45 = .ok (.iload_n 3, 1) := by decide +kernel
theorem dX7_entryHolds_46 : decode cX7_entryHolds 46 = .ok (.iadd, 1) := by decide +kernel
theorem dX7_entryHolds_47 : decode cX7_entryHolds 47 = .ok (.sipush 1024, 3) := by decide +kernel
theorem dX7_entryHolds_50 : decode cX7_entryHolds 50 = .ok (.if_icmp .gt 19, 3) := by decide +kernel
theorem dX7_entryHolds_53 : decode cX7_entryHolds 53 = .ok (.iload_n 3, 1) := by decide +kernel
theorem dX7_entryHolds_54 : decode cX7_entryHolds 54 = .ok (.aload_n 0, 1) := by decide +kernel
theorem dX7_entryHolds_55 : decode cX7_entryHolds 55 = .ok (.getfield 45, 3) := by decide +kernel
theorem dX7_entryHolds_58 : decode cX7_entryHolds 58 = .ok (.iload_n 1, 1) := by decide +kernel
theorem dX7_entryHolds_59 : decode cX7_entryHolds 59 = .ok (.invokevirtual 203, 3) := by decide +kernel
theorem dX7_entryHolds_62 : decode cX7_entryHolds 62 = .ok (.if_icmp .lt 7, 3) := by decide +kernel
theorem dX7_entryHolds_65 : decode cX7_entryHolds 65 = .ok (.iconst 1, 1) := by decide +kernel
theorem dX7_entryHolds_66 : decode cX7_entryHolds 66 = .ok (.goto 4, 3) := by decide +kernel
theorem dX7_entryHolds_69 : decode cX7_entryHolds 69 = .ok (.iconst 0, 1) := by decide +kernel
theorem dX7_entryHolds_70 : decode cX7_entryHolds 70 = .ok (.istore 5, 2) := by decide +kernel
theorem dX7_entryHolds_72 : decode cX7_entryHolds 72 = .ok (.iload 4, 2) := by decide +kernel
theorem dX7_entryHolds_74 : decode cX7_entryHolds 74 = .ok (.ifCond .ne 22, 3) := by decide +kernel
theorem dX7_entryHolds_77 : decode cX7_entryHolds 77 = .ok (.iload 5, 2) := by decide +kernel
theorem dX7_entryHolds_79 : decode cX7_entryHolds 79 = .ok (.ifCond .eq 15, 3) := by decide +kernel
theorem dX7_entryHolds_82 : decode cX7_entryHolds 82 = .ok (.iload_n 2, 1) := by decide +kernel
theorem dX7_entryHolds_83 : decode cX7_entryHolds 83 = .ok (.sipush 1024, 3) := by decide +kernel
theorem dX7_entryHolds_86 : decode cX7_entryHolds 86 = .ok (.irem, 1) := by decide +kernel
theorem dX7_entryHolds_87 : decode cX7_entryHolds 87 = .ok (.ifCond .ne 7, 3) := by decide +kernel
theorem dX7_entryHolds_90 : decode cX7_entryHolds 90 = .ok (.iconst 1, 1) := by decide +kernel
theorem dX7_entryHolds_91 : decode cX7_entryHolds 91 = .ok (.goto 4, 3) := by decide +kernel
theorem dX7_entryHolds_94 : decode cX7_entryHolds 94 = .ok (.iconst 0, 1) := by decide +kernel
theorem dX7_entryHolds_95 : decode cX7_entryHolds 95 = .ok (.ireturn, 1) := by decide +kernel
theorem dX7_entryHolds_96 : decode cX7_entryHolds 96 = .ok (.aload_n 0, 1) := by decide +kernel
theorem dX7_entryHolds_97 : decode cX7_entryHolds 97 = .ok (.getfield 41, 3) := by decide +kernel
theorem dX7_entryHolds_100 : decode cX7_entryHolds 100 = .ok (.iload 4, 2) := by decide +kernel
theorem dX7_entryHolds_102 : decode cX7_entryHolds 102 = .ok (.invokevirtual 94, 3) := by decide +kernel
theorem dX7_entryHolds_105 : decode cX7_entryHolds 105 = .ok (.ifCond .eq 7, 3) := by decide +kernel
theorem dX7_entryHolds_108 : decode cX7_entryHolds 108 = .ok (.iconst 2, 1) := by decide +kernel
theorem dX7_entryHolds_109 : decode cX7_entryHolds 109 = .ok (.goto 4, 3) := by decide +kernel
theorem dX7_entryHolds_112 : decode cX7_entryHolds 112 = .ok (.iconst 1, 1) := by decide +kernel
theorem dX7_entryHolds_113 : decode cX7_entryHolds 113 = .ok (.istore 6, 2) := by decide +kernel
theorem dX7_entryHolds_115 : decode cX7_entryHolds 115 = .ok (.iload_n 2, 1) := by decide +kernel
theorem dX7_entryHolds_116 : decode cX7_entryHolds 116 = .ok (.bipush 8, 2) := by decide +kernel
theorem dX7_entryHolds_118 : decode cX7_entryHolds 118 = .ok (.iadd, 1) := by decide +kernel
theorem dX7_entryHolds_119 : decode cX7_entryHolds 119 = .ok (.aload_n 0, 1) := by decide +kernel
theorem dX7_entryHolds_120 : decode cX7_entryHolds 120 = .ok (.getfield 45, 3) := by decide +kernel
theorem dX7_entryHolds_123 : decode cX7_entryHolds 123 = .ok (.iload_n 1, 1) := by decide +kernel
theorem dX7_entryHolds_124 : decode cX7_entryHolds 124 = .ok (.invokevirtual 185, 3) := by decide +kernel
theorem dX7_entryHolds_127 : decode cX7_entryHolds 127 = .ok (.iadd, 1) := by decide +kernel
theorem dX7_entryHolds_128 : decode cX7_entryHolds 128 = .ok (.istore 7, 2) := by decide +kernel
theorem dX7_entryHolds_130 : decode cX7_entryHolds 130 = .ok (.iload 5, 2) := by decide +kernel
theorem dX7_entryHolds_132 : decode cX7_entryHolds 132 = .ok (.ifCond .eq 45, 3) := by decide +kernel
theorem dX7_entryHolds_135 : decode cX7_entryHolds 135 = .ok (.aload_n 0, 1) := by decide +kernel
theorem dX7_entryHolds_136 : decode cX7_entryHolds 136 = .ok (.getfield 27, 3) := by decide +kernel
theorem dX7_entryHolds_139 : decode cX7_entryHolds 139 = .ok (.iload_n 2, 1) := by decide +kernel
theorem dX7_entryHolds_140 : decode cX7_entryHolds 140 = .ok (.bipush 7, 2) := by decide +kernel
theorem dX7_entryHolds_142 : decode cX7_entryHolds 142 = .ok (.iadd, 1) := by decide +kernel
theorem dX7_entryHolds_143 : decode cX7_entryHolds 143 = .ok (.invokevirtual 206, 3) := by decide +kernel
theorem dX7_entryHolds_146 : decode cX7_entryHolds 146 = .ok (.iload 6, 2) := by decide +kernel
theorem dX7_entryHolds_148 : decode cX7_entryHolds 148 = .ok (.if_icmp .ne 29, 3) := by decide +kernel
theorem dX7_entryHolds_151 : decode cX7_entryHolds 151 = .ok (.aload_n 0, 1) := by decide +kernel
theorem dX7_entryHolds_152 : decode cX7_entryHolds 152 = .ok (.getfield 27, 3) := by decide +kernel
theorem dX7_entryHolds_155 : decode cX7_entryHolds 155 = .ok (.iload 7, 2) := by decide +kernel
theorem dX7_entryHolds_157 : decode cX7_entryHolds 157 = .ok (.iload_n 2, 1) := by decide +kernel
theorem dX7_entryHolds_158 : decode cX7_entryHolds 158 = .ok (.aload_n 0, 1) := by decide +kernel
theorem dX7_entryHolds_159 : decode cX7_entryHolds 159 = .ok (.getfield 45, 3) := by decide +kernel
theorem dX7_entryHolds_162 : decode cX7_entryHolds 162 = .ok (.iload_n 1, 1) := by decide +kernel
theorem dX7_entryHolds_163 : decode cX7_entryHolds 163 = .ok (.invokevirtual 203, 3) := by decide +kernel
theorem dX7_entryHolds_166 : decode cX7_entryHolds 166 = .ok (.iadd, 1) := by decide +kernel
theorem dX7_entryHolds_167 : decode cX7_entryHolds 167 = .ok (.invokevirtual 129, 3) := by decide +kernel
theorem dX7_entryHolds_170 : decode cX7_entryHolds 170 = .ok (.ifCond .eq 7, 3) := by decide +kernel
theorem dX7_entryHolds_173 : decode cX7_entryHolds 173 = .ok (.iconst 1, 1) := by decide +kernel
theorem dX7_entryHolds_174 : decode cX7_entryHolds 174 = .ok (.goto 4, 3) := by decide +kernel
theorem dX7_entryHolds_177 : decode cX7_entryHolds 177 = .ok (.iconst 0, 1) := by decide +kernel
theorem dX7_entryHolds_178 : decode cX7_entryHolds 178 = .ok (.ireturn, 1) := by decide +kernel
theorem dX5_entryAt_0 : decode cX5_entryAt 0 = .ok (.iload_n 1, 1) := by decide +kernel
theorem dX5_entryAt_1 : decode cX5_entryAt 1 = .ok (.ifCond .lt 20, 3) := by decide +kernel
theorem dX5_entryAt_4 : decode cX5_entryAt 4 = .ok (.iload_n 1, 1) := by decide +kernel
theorem dX5_entryAt_5 : decode cX5_entryAt 5 = .ok (.aload_n 0, 1) := by decide +kernel
theorem dX5_entryAt_6 : decode cX5_entryAt 6 = .ok (.getfield 23, 3) := by decide +kernel
theorem dX5_entryAt_9 : decode cX5_entryAt 9 = .ok (.if_icmp .ge 12, 3) := by decide +kernel
theorem dX5_entryAt_12 : decode cX5_entryAt 12 = .ok (.aload_n 0, 1) := by decide +kernel
theorem dX5_entryAt_13 : decode cX5_entryAt 13 = .ok (.getfield 9, 3) := by decide +kernel
theorem dX5_entryAt_16 : decode cX5_entryAt 16 = .ok (.iload_n 1, 1) := by decide +kernel
theorem dX5_entryAt_17 : decode cX5_entryAt 17 = .ok (.iaload, 1) := by decide +kernel
theorem dX5_entryAt_18 : decode cX5_entryAt 18 = .ok (.goto 4, 3) := by decide +kernel
theorem dX5_entryAt_21 : decode cX5_entryAt 21 = .ok (.iconst (-1), 1) := by decide +kernel
theorem dX5_entryAt_22 : decode cX5_entryAt 22 = .ok (.ireturn, 1) := by decide +kernel
theorem dX5_lengthOf_0 : decode cX5_lengthOf 0 = .ok (.aload_n 0, 1) := by decide +kernel
theorem dX5_lengthOf_1 : decode cX5_lengthOf 1 = .ok (.getfield 15, 3) := by decide +kernel
theorem dX5_lengthOf_4 : decode cX5_lengthOf 4 = .ok (.aload_n 0, 1) := by decide +kernel
theorem dX5_lengthOf_5 : decode cX5_lengthOf 5 = .ok (.iload_n 1, 1) := by decide +kernel
theorem dX5_lengthOf_6 : decode cX5_lengthOf 6 = .ok (.invokevirtual 53, 3) := by decide +kernel
theorem dX5_lengthOf_9 : decode cX5_lengthOf 9 = .ok (.iconst 4, 1) := by decide +kernel
theorem dX5_lengthOf_10 : decode cX5_lengthOf 10 = .ok (.iadd, 1) := by decide +kernel
theorem dX5_lengthOf_11 : decode cX5_lengthOf 11 = .ok (.invokevirtual 45, 3) := by decide +kernel
theorem dX5_lengthOf_14 : decode cX5_lengthOf 14 = .ok (.ireturn, 1) := by decide +kernel
theorem dX5_inodeOf_0 : decode cX5_inodeOf 0 = .ok (.aload_n 0, 1) := by decide +kernel
theorem dX5_inodeOf_1 : decode cX5_inodeOf 1 = .ok (.getfield 15, 3) := by decide +kernel
theorem dX5_inodeOf_4 : decode cX5_inodeOf 4 = .ok (.aload_n 0, 1) := by decide +kernel
theorem dX5_inodeOf_5 : decode cX5_inodeOf 5 = .ok (.iload_n 1, 1) := by decide +kernel
theorem dX5_inodeOf_6 : decode cX5_inodeOf 6 = .ok (.invokevirtual 53, 3) := by decide +kernel
theorem dX5_inodeOf_9 : decode cX5_inodeOf 9 = .ok (.invokevirtual 56, 3) := by decide +kernel
theorem dX5_inodeOf_12 : decode cX5_inodeOf 12 = .ok (.ireturn, 1) := by decide +kernel
theorem dX5_usedBy_0 : decode cX5_usedBy 0 = .ok (.aload_n 0, 1) := by decide +kernel
theorem dX5_usedBy_1 : decode cX5_usedBy 1 = .ok (.iload_n 1, 1) := by decide +kernel
theorem dX5_usedBy_2 : decode cX5_usedBy 2 = .ok (.invokevirtual 53, 3) := by decide +kernel
theorem dX5_usedBy_5 : decode cX5_usedBy 5 = .ok (.istore_n 2, 1) := by decide +kernel
theorem dX5_usedBy_6 : decode cX5_usedBy 6 = .ok (.aload_n 0, 1) := by decide +kernel
theorem dX5_usedBy_7 : decode cX5_usedBy 7 = .ok (.getfield 15, 3) := by decide +kernel
theorem dX5_usedBy_10 : decode cX5_usedBy 10 = .ok (.iload_n 2, 1) := by decide +kernel
theorem dX5_usedBy_11 : decode cX5_usedBy 11 = .ok (.invokevirtual 56, 3) := by decide +kernel
theorem dX5_usedBy_14 : decode cX5_usedBy 14 = .ok (.ifCond .ne 7, 3) := by decide +kernel
theorem dX5_usedBy_17 : decode cX5_usedBy 17 = .ok (.iconst 0, 1) := by decide +kernel
theorem dX5_usedBy_18 : decode cX5_usedBy 18 = .ok (.goto 17, 3) := by decide +kernel
theorem dX5_usedBy_21 : decode cX5_usedBy 21 = .ok (.aload_n 0, 1) := by decide +kernel
theorem dX5_usedBy_22 : decode cX5_usedBy 22 = .ok (.getfield 15, 3) := by decide +kernel
theorem dX5_usedBy_25 : decode cX5_usedBy 25 = .ok (.iload_n 2, 1) := by decide +kernel
theorem dX5_usedBy_26 : decode cX5_usedBy 26 = .ok (.bipush 6, 2) := by decide +kernel
theorem dX5_usedBy_28 : decode cX5_usedBy 28 = .ok (.iadd, 1) := by decide +kernel
theorem dX5_usedBy_29 : decode cX5_usedBy 29 = .ok (.invokevirtual 59, 3) := by decide +kernel
theorem dX5_usedBy_32 : decode cX5_usedBy 32 = .ok (.invokestatic 62, 3) := by decide +kernel
theorem dX5_usedBy_35 : decode cX5_usedBy 35 = .ok (.ireturn, 1) := by decide +kernel
theorem dX5_spaceFor_0 : decode cX5_spaceFor 0 = .ok (.bipush 8, 2) := by decide +kernel
theorem dX5_spaceFor_2 : decode cX5_spaceFor 2 = .ok (.iload_n 0, 1) := by decide +kernel
theorem dX5_spaceFor_3 : decode cX5_spaceFor 3 = .ok (.iadd, 1) := by decide +kernel
theorem dX5_spaceFor_4 : decode cX5_spaceFor 4 = .ok (.iconst 3, 1) := by decide +kernel
theorem dX5_spaceFor_5 : decode cX5_spaceFor 5 = .ok (.iadd, 1) := by decide +kernel
theorem dX5_spaceFor_6 : decode cX5_spaceFor 6 = .ok (.iconst 4, 1) := by decide +kernel
theorem dX5_spaceFor_7 : decode cX5_spaceFor 7 = .ok (.idiv, 1) := by decide +kernel
theorem dX5_spaceFor_8 : decode cX5_spaceFor 8 = .ok (.iconst 4, 1) := by decide +kernel
theorem dX5_spaceFor_9 : decode cX5_spaceFor 9 = .ok (.imul, 1) := by decide +kernel
theorem dX5_spaceFor_10 : decode cX5_spaceFor 10 = .ok (.ireturn, 1) := by decide +kernel
theorem dX5_nameLengthOf_0 : decode cX5_nameLengthOf 0 = .ok (.aload_n 0, 1) := by decide +kernel
theorem dX5_nameLengthOf_1 : decode cX5_nameLengthOf 1 = .ok (.getfield 15, 3) := by decide +kernel
theorem dX5_nameLengthOf_4 : decode cX5_nameLengthOf 4 = .ok (.aload_n 0, 1) := by decide +kernel
theorem dX5_nameLengthOf_5 : decode cX5_nameLengthOf 5 = .ok (.iload_n 1, 1) := by decide +kernel
theorem dX5_nameLengthOf_6 : decode cX5_nameLengthOf 6 = .ok (.invokevirtual 53, 3) := by decide +kernel
theorem dX5_nameLengthOf_9 : decode cX5_nameLengthOf 9 = .ok (.bipush 6, 2) := by decide +kernel
theorem dX5_nameLengthOf_11 : decode cX5_nameLengthOf 11 = .ok (.iadd, 1) := by decide +kernel
theorem dX5_nameLengthOf_12 : decode cX5_nameLengthOf 12 = .ok (.invokevirtual 59, 3) := by decide +kernel
theorem dX5_nameLengthOf_15 : decode cX5_nameLengthOf 15 = .ok (.ireturn, 1) := by decide +kernel
theorem dX5_letterOf_0 : decode cX5_letterOf 0 = .ok (.aload_n 0, 1) := by decide +kernel
theorem dX5_letterOf_1 : decode cX5_letterOf 1 = .ok (.iload_n 1, 1) := by decide +kernel
theorem dX5_letterOf_2 : decode cX5_letterOf 2 = .ok (.invokevirtual 53, 3) := by decide +kernel
theorem dX5_letterOf_5 : decode cX5_letterOf 5 = .ok (.istore_n 3, 1) := by decide +kernel
theorem dX5_letterOf_6 : decode cX5_letterOf 6 = .ok (.iload_n 2, 1) := by decide +kernel
theorem dX5_letterOf_7 : decode cX5_letterOf 7 = .ok (.ifCond .lt 22, 3) := by decide +kernel
theorem dX5_letterOf_10 : decode cX5_letterOf 10 = .ok (.iload_n 2, 1) := by decide +kernel
theorem dX5_letterOf_11 : decode cX5_letterOf 11 = .ok (.aload_n 0, 1) := by decide +kernel
theorem dX5_letterOf_12 : decode cX5_letterOf 12 = .ok (.getfield 15, 3) := by decide +kernel
theorem dX5_letterOf_15 : decode cX5_letterOf 15 = .ok (.iload_n 3, 1) := by decide +kernel
theorem dX5_letterOf_16 : decode cX5_letterOf 16 = .ok (.bipush 6, 2) := by decide +kernel
theorem dX5_letterOf_18 : decode cX5_letterOf 18 = .ok (.iadd, 1) := by decide +kernel
theorem dX5_letterOf_19 : decode cX5_letterOf 19 = .ok (.invokevirtual 59, 3) := by decide +kernel
theorem dX5_letterOf_22 : decode cX5_letterOf 22 = .ok (.if_icmp .ge 7, 3) := by decide +kernel
theorem dX5_letterOf_25 : decode cX5_letterOf 25 = .ok (.iconst 1, 1) := by decide +kernel
theorem dX5_letterOf_26 : decode cX5_letterOf 26 = .ok (.goto 4, 3) := by decide +kernel
theorem dX5_letterOf_29 : decode cX5_letterOf 29 = .ok (.iconst 0, 1) := by decide +kernel
theorem dX5_letterOf_30 : decode cX5_letterOf 30 = .ok (.istore 4, 2) := by decide +kernel
theorem dX5_letterOf_32 : decode cX5_letterOf 32 = .ok (.iload 4, 2) := by decide +kernel
theorem dX5_letterOf_34 : decode cX5_letterOf 34 = .ok (.ifCond .eq 19, 3) := by decide +kernel
theorem dX5_letterOf_37 : decode cX5_letterOf 37 = .ok (.aload_n 0, 1) := by decide +kernel
theorem dX5_letterOf_38 : decode cX5_letterOf 38 = .ok (.getfield 15, 3) := by decide +kernel
theorem dX5_letterOf_41 : decode cX5_letterOf 41 = .ok (.iload_n 3, 1) := by decide +kernel
theorem dX5_letterOf_42 : decode cX5_letterOf 42 = .ok (.bipush 8, 2) := by decide +kernel
theorem dX5_letterOf_44 : decode cX5_letterOf 44 = .ok (.iadd, 1) := by decide +kernel
theorem dX5_letterOf_45 : decode cX5_letterOf 45 = .ok (.iload_n 2, 1) := by decide +kernel
theorem dX5_letterOf_46 : decode cX5_letterOf 46 = .ok (.iadd, 1) := by decide +kernel
theorem dX5_letterOf_47 : decode cX5_letterOf 47 = .ok (.invokevirtual 59, 3) := by decide +kernel
theorem dX5_letterOf_50 : decode cX5_letterOf 50 = .ok (.goto 4, 3) := by decide +kernel
theorem dX5_letterOf_53 : decode cX5_letterOf 53 = .ok (.iconst (-1), 1) := by decide +kernel
theorem dX5_letterOf_54 : decode cX5_letterOf 54 = .ok (.ireturn, 1) := by decide +kernel
theorem dX5_parent_0 : decode cX5_parent 0 = .ok (.aload_n 0, 1) := by decide +kernel
theorem dX5_parent_1 : decode cX5_parent 1 = .ok (.iconst 1, 1) := by decide +kernel
theorem dX5_parent_2 : decode cX5_parent 2 = .ok (.invokevirtual 65, 3) := by decide +kernel
theorem dX5_parent_5 : decode cX5_parent 5 = .ok (.ireturn, 1) := by decide +kernel
theorem dX7_itemsHold_0 : decode cX7_itemsHold 0 = .ok (.iconst 2, 1) := by decide +kernel
theorem dX7_itemsHold_1 : decode cX7_itemsHold 1 = .ok (.istore_n 2, 1) := by decide +kernel
theorem dX7_itemsHold_2 : decode cX7_itemsHold 2 = .ok (.iconst 2, 1) := by decide +kernel
theorem dX7_itemsHold_3 : decode cX7_itemsHold 3 = .ok (.istore_n 3, 1) := by decide +kernel
theorem dX7_itemsHold_4 : decode cX7_itemsHold 4 = .ok (.iload_n 3, 1) := by decide +kernel
theorem dX7_itemsHold_5 : decode cX7_itemsHold 5 = .ok (.aload_n 0, 1) := by decide +kernel
theorem dX7_itemsHold_6 : decode cX7_itemsHold 6 = .ok (.getfield 45, 3) := by decide +kernel
theorem dX7_itemsHold_9 : decode cX7_itemsHold 9 = .ok (.invokevirtual 173, 3) := by decide +kernel
theorem dX7_itemsHold_12 : decode cX7_itemsHold 12 = .ok (.if_icmp .ge 74, 3) := by decide +kernel
theorem dX7_itemsHold_15 : decode cX7_itemsHold 15 = .ok (.aload_n 0, 1) := by decide +kernel
theorem dX7_itemsHold_16 : decode cX7_itemsHold 16 = .ok (.iload_n 3, 1) := by decide +kernel
theorem dX7_itemsHold_17 : decode cX7_itemsHold 17 = .ok (.invokevirtual 176, 3) := by decide +kernel
theorem dX7_itemsHold_20 : decode cX7_itemsHold 20 = .ok (.ifCond .ne 5, 3) := by decide +kernel
theorem dX7_itemsHold_23 : decode cX7_itemsHold 23 = .ok (.iconst 0, 1) := by decide +kernel
theorem dX7_itemsHold_24 : decode cX7_itemsHold 24 = .ok (.ireturn, 1) := by decide +kernel
theorem dX7_itemsHold_25 : decode cX7_itemsHold 25 = .ok (.aload_n 0, 1) := by decide +kernel
theorem dX7_itemsHold_26 : decode cX7_itemsHold 26 = .ok (.getfield 45, 3) := by decide +kernel
theorem dX7_itemsHold_29 : decode cX7_itemsHold 29 = .ok (.iload_n 3, 1) := by decide +kernel
theorem dX7_itemsHold_30 : decode cX7_itemsHold 30 = .ok (.invokevirtual 179, 3) := by decide +kernel
theorem dX7_itemsHold_33 : decode cX7_itemsHold 33 = .ok (.istore 4, 2) := by decide +kernel
theorem dX7_itemsHold_35 : decode cX7_itemsHold 35 = .ok (.iload 4, 2) := by decide +kernel
theorem dX7_itemsHold_37 : decode cX7_itemsHold 37 = .ok (.ifCond .eq 43, 3) := by decide +kernel
theorem dX7_itemsHold_40 : decode cX7_itemsHold 40 = .ok (.aload_n 0, 1) := by decide +kernel
theorem dX7_itemsHold_41 : decode cX7_itemsHold 41 = .ok (.iload_n 3, 1) := by decide +kernel
theorem dX7_itemsHold_42 : decode cX7_itemsHold 42 = .ok (.invokevirtual 191, 3) := by decide +kernel
theorem dX7_itemsHold_45 : decode cX7_itemsHold 45 = .ok (.ifCond .eq 13, 3) := by decide +kernel
theorem dX7_itemsHold_48 : decode cX7_itemsHold 48 = .ok (.aload_n 0, 1) := by decide +kernel
theorem dX7_itemsHold_49 : decode cX7_itemsHold 49 = .ok (.iload 4, 2) := by decide +kernel
theorem dX7_itemsHold_51 : decode cX7_itemsHold 51 = .ok (.iload_n 1, 1) := by decide +kernel
theorem dX7_itemsHold_52 : decode cX7_itemsHold 52 = .ok (.invokevirtual 194, 3) := by decide +kernel
theorem dX7_itemsHold_55 : decode cX7_itemsHold 55 = .ok (.ifCond .ne 5, 3) := by decide +kernel
theorem dX7_itemsHold_58 : decode cX7_itemsHold 58 = .ok (.iconst 0, 1) := by decide +kernel
theorem dX7_itemsHold_59 : decode cX7_itemsHold 59 = .ok (.ireturn, 1) := by decide +kernel
theorem dX7_itemsHold_60 : decode cX7_itemsHold 60 = .ok (.iload_n 2, 1) := by decide +kernel
theorem dX7_itemsHold_61 : decode cX7_itemsHold 61 = .ok (.aload_n 0, 1) := by decide +kernel
theorem dX7_itemsHold_62 : decode cX7_itemsHold 62 = .ok (.getfield 41, 3) := by decide +kernel
theorem dX7_itemsHold_65 : decode cX7_itemsHold 65 = .ok (.iload 4, 2) := by decide +kernel
theorem dX7_itemsHold_67 : decode cX7_itemsHold 67 = .ok (.invokevirtual 94, 3) := by decide +kernel
theorem dX7_itemsHold_70 : decode cX7_itemsHold 70 = .ok (.ifCond .eq 7, 3) := by decide +kernel
theorem dX7_itemsHold_73 : decode cX7_itemsHold 73 = .ok (.iconst 1, 1) := by decide +kernel
theorem dX7_itemsHold_74 : decode cX7_itemsHold 74 = .ok (.goto 4, 3) := by decide +kernel
theorem dX7_itemsHold_77 : decode cX7_itemsHold 77 = .ok (.iconst 0, 1) := by decide +kernel
theorem dX7_itemsHold_78 : decode cX7_itemsHold 78 = .ok (.iadd, 1) := by decide +kernel
theorem dX7_itemsHold_79 : decode cX7_itemsHold 79 = .ok (.istore_n 2, 1) := by decide +kernel
theorem dX7_itemsHold_80 : decode cX7_itemsHold 80 = .ok (.iinc 3 1, 3) := by decide +kernel
theorem dX7_itemsHold_83 : decode cX7_itemsHold 83 = .ok (.goto (-79), 3) := by decide +kernel
theorem dX7_itemsHold_86 : decode cX7_itemsHold 86 = .ok (.aload_n 0, 1) := by decide +kernel
theorem dX7_itemsHold_87 : decode cX7_itemsHold 87 = .ok (.getfield 41, 3) := by decide +kernel
theorem dX7_itemsHold_90 : decode cX7_itemsHold 90 = .ok (.iload_n 1, 1) := by decide +kernel
theorem dX7_itemsHold_91 : decode cX7_itemsHold 91 = .ok (.invokevirtual 197, 3) := by decide +kernel
theorem dX7_itemsHold_94 : decode cX7_itemsHold 94 = .ok (.iload_n 2, 1) := by decide +kernel
theorem dX7_itemsHold_95 : decode cX7_itemsHold 95 = .ok (.if_icmp .ne 7, 3) := by decide +kernel
theorem dX7_itemsHold_98 : decode cX7_itemsHold 98 = .ok (.iconst 1, 1) := by decide +kernel
theorem dX7_itemsHold_99 : decode cX7_itemsHold 99 = .ok (.goto 4, 3) := by decide +kernel
theorem dX7_itemsHold_102 : decode cX7_itemsHold 102 = .ok (.iconst 0, 1) := by decide +kernel
theorem dX7_itemsHold_103 : decode cX7_itemsHold 103 = .ok (.ireturn, 1) := by decide +kernel
theorem dX7_nameHolds_0 : decode cX7_nameHolds 0 = .ok (.aload_n 0, 1) := by decide +kernel
theorem dX7_nameHolds_1 : decode cX7_nameHolds 1 = .ok (.getfield 45, 3) := by decide +kernel
theorem dX7_nameHolds_4 : decode cX7_nameHolds 4 = .ok (.iload_n 1, 1) := by decide +kernel
theorem dX7_nameHolds_5 : decode cX7_nameHolds 5 = .ok (.invokevirtual 185, 3) := by decide +kernel
theorem dX7_nameHolds_8 : decode cX7_nameHolds 8 = .ok (.istore_n 2, 1) := by decide +kernel
theorem dX7_nameHolds_9 : decode cX7_nameHolds 9 = .ok (.iconst 0, 1) := by decide +kernel
theorem dX7_nameHolds_10 : decode cX7_nameHolds 10 = .ok (.istore_n 3, 1) := by decide +kernel
theorem dX7_nameHolds_11 : decode cX7_nameHolds 11 = .ok (.iload_n 3, 1) := by decide +kernel
theorem dX7_nameHolds_12 : decode cX7_nameHolds 12 = .ok (.iload_n 2, 1) := by decide +kernel
theorem dX7_nameHolds_13 : decode cX7_nameHolds 13 = .ok (.if_icmp .ge 34, 3) := by decide +kernel
theorem dX7_nameHolds_16 : decode cX7_nameHolds 16 = .ok (.aload_n 0, 1) := by decide +kernel
theorem dX7_nameHolds_17 : decode cX7_nameHolds 17 = .ok (.getfield 45, 3) := by decide +kernel
theorem dX7_nameHolds_20 : decode cX7_nameHolds 20 = .ok (.iload_n 1, 1) := by decide +kernel
theorem dX7_nameHolds_21 : decode cX7_nameHolds 21 = .ok (.iload_n 3, 1) := by decide +kernel
theorem dX7_nameHolds_22 : decode cX7_nameHolds 22 = .ok (.invokevirtual 188, 3) := by decide +kernel
theorem dX7_nameHolds_25 : decode cX7_nameHolds 25 = .ok (.istore 4, 2) := by decide +kernel
theorem dX7_nameHolds_27 : decode cX7_nameHolds 27 = .ok (.iload 4, 2) := by decide +kernel
theorem dX7_nameHolds_29 : decode cX7_nameHolds 29 = .ok (.ifCond .eq 10, 3) := by decide +kernel
theorem dX7_nameHolds_32 : decode cX7_nameHolds 32 = .ok (.iload 4, 2) := by decide +kernel
theorem dX7_nameHolds_34 : decode cX7_nameHolds 34 = .ok (.bipush 47, 2) := by decide +kernel
theorem dX7_nameHolds_36 : decode cX7_nameHolds 36 = .ok (.if_icmp .ne 5, 3) := by decide +kernel
theorem dX7_nameHolds_39 : decode cX7_nameHolds 39 = .ok (.iconst 0, 1) := by decide +kernel
theorem dX7_nameHolds_40 : decode cX7_nameHolds 40 = .ok (.ireturn, 1) := by decide +kernel
theorem dX7_nameHolds_41 : decode cX7_nameHolds 41 = .ok (.iinc 3 1, 3) := by decide +kernel
theorem dX7_nameHolds_44 : decode cX7_nameHolds 44 = .ok (.goto (-33), 3) := by decide +kernel
theorem dX7_nameHolds_47 : decode cX7_nameHolds 47 = .ok (.iconst 0, 1) := by decide +kernel
theorem dX7_nameHolds_48 : decode cX7_nameHolds 48 = .ok (.istore_n 3, 1) := by decide +kernel
theorem dX7_nameHolds_49 : decode cX7_nameHolds 49 = .ok (.iload_n 3, 1) := by decide +kernel
theorem dX7_nameHolds_50 : decode cX7_nameHolds 50 = .ok (.iload_n 1, 1) := by decide +kernel
theorem dX7_nameHolds_51 : decode cX7_nameHolds 51 = .ok (.if_icmp .ge 31, 3) := by decide +kernel
theorem dX7_nameHolds_54 : decode cX7_nameHolds 54 = .ok (.aload_n 0, 1) := by decide +kernel
theorem dX7_nameHolds_55 : decode cX7_nameHolds 55 = .ok (.getfield 45, 3) := by decide +kernel
theorem dX7_nameHolds_58 : decode cX7_nameHolds 58 = .ok (.iload_n 3, 1) := by decide +kernel
theorem dX7_nameHolds_59 : decode cX7_nameHolds 59 = .ok (.invokevirtual 179, 3) := by decide +kernel
theorem dX7_nameHolds_62 : decode cX7_nameHolds 62 = .ok (.ifCond .eq 14, 3) := by decide +kernel
theorem dX7_nameHolds_65 : decode cX7_nameHolds 65 = .ok (.aload_n 0, 1) := by decide +kernel
theorem dX7_nameHolds_66 : decode cX7_nameHolds 66 = .ok (.iload_n 3, 1) := by decide +kernel
theorem dX7_nameHolds_67 : decode cX7_nameHolds 67 = .ok (.iload_n 1, 1) := by decide +kernel
theorem dX7_nameHolds_68 : decode cX7_nameHolds 68 = .ok (.invokevirtual 209, 3) := by decide +kernel
theorem dX7_nameHolds_71 : decode cX7_nameHolds 71 = .ok (.ifCond .eq 5, 3) := by decide +kernel
theorem dX7_nameHolds_74 : decode cX7_nameHolds 74 = .ok (.iconst 0, 1) := by decide +kernel
theorem dX7_nameHolds_75 : decode cX7_nameHolds 75 = .ok (.ireturn, 1) := by decide +kernel
theorem dX7_nameHolds_76 : decode cX7_nameHolds 76 = .ok (.iinc 3 1, 3) := by decide +kernel
theorem dX7_nameHolds_79 : decode cX7_nameHolds 79 = .ok (.goto (-30), 3) := by decide +kernel
theorem dX7_nameHolds_82 : decode cX7_nameHolds 82 = .ok (.iload_n 2, 1) := by decide +kernel
theorem dX7_nameHolds_83 : decode cX7_nameHolds 83 = .ok (.ifCond .le 7, 3) := by decide +kernel
theorem dX7_nameHolds_86 : decode cX7_nameHolds 86 = .ok (.iconst 1, 1) := by decide +kernel
theorem dX7_nameHolds_87 : decode cX7_nameHolds 87 = .ok (.goto 4, 3) := by decide +kernel
theorem dX7_nameHolds_90 : decode cX7_nameHolds 90 = .ok (.iconst 0, 1) := by decide +kernel
theorem dX7_nameHolds_91 : decode cX7_nameHolds 91 = .ok (.ireturn, 1) := by decide +kernel
theorem dX7_sameName_0 : decode cX7_sameName 0 = .ok (.aload_n 0, 1) := by decide +kernel
theorem dX7_sameName_1 : decode cX7_sameName 1 = .ok (.getfield 45, 3) := by decide +kernel
theorem dX7_sameName_4 : decode cX7_sameName 4 = .ok (.iload_n 1, 1) := by decide +kernel
theorem dX7_sameName_5 : decode cX7_sameName 5 = .ok (.invokevirtual 200, 3) := by decide +kernel
theorem dX7_sameName_8 : decode cX7_sameName 8 = .ok (.bipush 6, 2) := by decide +kernel
theorem dX7_sameName_10 : decode cX7_sameName 10 = .ok (.iadd, 1) := by decide +kernel
theorem dX7_sameName_11 : decode cX7_sameName 11 = .ok (.istore_n 3, 1) := by decide +kernel
theorem dX7_sameName_12 : decode cX7_sameName 12 = .ok (.aload_n 0, 1) := by decide +kernel
theorem dX7_sameName_13 : decode cX7_sameName 13 = .ok (.getfield 45, 3) := by decide +kernel
theorem dX7_sameName_16 : decode cX7_sameName 16 = .ok (.iload_n 2, 1) := by decide +kernel
theorem dX7_sameName_17 : decode cX7_sameName 17 = .ok (.invokevirtual 200, 3) := by decide +kernel
theorem dX7_sameName_20 : decode cX7_sameName 20 = .ok (.bipush 6, 2) := by decide +kernel
theorem dX7_sameName_22 : decode cX7_sameName 22 = .ok (.iadd, 1) := by decide +kernel
theorem dX7_sameName_23 : decode cX7_sameName 23 = .ok (.istore 4, 2) := by decide +kernel
theorem dX7_sameName_25 : decode cX7_sameName 25 = .ok (.aload_n 0, 1) := by decide +kernel
theorem dX7_sameName_26 : decode cX7_sameName 26 = .ok (.getfield 27, 3) := by decide +kernel
theorem dX7_sameName_29 : decode cX7_sameName 29 = .ok (.iload_n 3, 1) := by decide +kernel
theorem dX7_sameName_30 : decode cX7_sameName 30 = .ok (.invokevirtual 206, 3) := by decide +kernel
theorem dX7_sameName_33 : decode cX7_sameName 33 = .ok (.istore 5, 2) := by decide +kernel
theorem dX7_sameName_35 : decode cX7_sameName 35 = .ok (.iload 5, 2) := by decide +kernel
theorem dX7_sameName_37 : decode cX7_sameName 37 = .ok (.aload_n 0, 1) := by decide +kernel
theorem dX7_sameName_38 : decode cX7_sameName 38 = .ok (.getfield 27, 3) := by decide +kernel
theorem dX7_sameName_41 : decode cX7_sameName 41 = .ok (.iload 4, 2) := by decide +kernel
theorem dX7_sameName_43 : decode cX7_sameName 43 = .ok (.invokevirtual 206, 3) := by decide +kernel
theorem dX7_sameName_46 : decode cX7_sameName 46 = .ok (.if_icmp .eq 5, 3) := by decide +kernel
theorem dX7_sameName_49 : decode cX7_sameName 49 = .ok (.iconst 0, 1) := by decide +kernel
theorem dX7_sameName_50 : decode cX7_sameName 50 = .ok (.ireturn, 1) := by decide +kernel
theorem dX7_sameName_51 : decode cX7_sameName 51 = .ok (.iconst 2, 1) := by decide +kernel
theorem dX7_sameName_52 : decode cX7_sameName 52 = .ok (.istore 6, 2) := by decide +kernel
theorem dX7_sameName_54 : decode cX7_sameName 54 = .ok (.iconst 0, 1) := by decide +kernel
theorem dX7_sameName_55 : decode cX7_sameName 55 = .ok (.istore 7, 2) := by decide +kernel
theorem dX7_sameName_57 : decode cX7_sameName 57 = .ok (.iload 7, 2) := by decide +kernel
theorem dX7_sameName_59 : decode cX7_sameName 59 = .ok (.iload 5, 2) := by decide +kernel
theorem dX7_sameName_61 : decode cX7_sameName 61 = .ok (.if_icmp .ge 43, 3) := by decide +kernel
theorem dX7_sameName_64 : decode cX7_sameName 64 = .ok (.aload_n 0, 1) := by decide +kernel
theorem dX7_sameName_65 : decode cX7_sameName 65 = .ok (.getfield 27, 3) := by decide +kernel
theorem dX7_sameName_68 : decode cX7_sameName 68 = .ok (.iload_n 3, 1) := by decide +kernel
theorem dX7_sameName_69 : decode cX7_sameName 69 = .ok (.iload 6, 2) := by decide +kernel
theorem dX7_sameName_71 : decode cX7_sameName 71 = .ok (.iadd, 1) := by decide +kernel
theorem dX7_sameName_72 : decode cX7_sameName 72 = .ok (.iload 7, 2) := by decide +kernel
theorem dX7_sameName_74 : decode cX7_sameName 74 = .ok (.iadd, 1) := by decide +kernel
theorem dX7_sameName_75 : decode cX7_sameName 75 = .ok (.invokevirtual 206, 3) := by decide +kernel
theorem dX7_sameName_78 : decode cX7_sameName 78 = .ok (.aload_n 0, 1) := by decide +kernel
theorem dX7_sameName_79 : decode cX7_sameName 79 = .ok (.getfield 27, 3) := by decide +kernel
theorem dX7_sameName_82 : decode cX7_sameName 82 = .ok (.iload 4, 2) := by decide +kernel
theorem dX7_sameName_84 : decode cX7_sameName 84 = .ok (.iload 6, 2) := by decide +kernel
theorem dX7_sameName_86 : decode cX7_sameName 86 = .ok (.iadd, 1) := by decide +kernel
theorem dX7_sameName_87 : decode cX7_sameName 87 = .ok (.iload 7, 2) := by decide +kernel
theorem dX7_sameName_89 : decode cX7_sameName 89 = .ok (.iadd, 1) := by decide +kernel
theorem dX7_sameName_90 : decode cX7_sameName 90 = .ok (.invokevirtual 206, 3) := by decide +kernel
theorem dX7_sameName_93 : decode cX7_sameName 93 = .ok (.if_icmp .eq 5, 3) := by decide +kernel
theorem dX7_sameName_96 : decode cX7_sameName 96 = .ok (.iconst 0, 1) := by decide +kernel
theorem dX7_sameName_97 : decode cX7_sameName 97 = .ok (.ireturn, 1) := by decide +kernel
theorem dX7_sameName_98 : decode cX7_sameName 98 = .ok (.iinc 7 1, 3) := by decide +kernel
theorem dX7_sameName_101 : decode cX7_sameName 101 = .ok (.goto (-44), 3) := by decide +kernel
theorem dX7_sameName_104 : decode cX7_sameName 104 = .ok (.iconst 1, 1) := by decide +kernel
theorem dX7_sameName_105 : decode cX7_sameName 105 = .ok (.ireturn, 1) := by decide +kernel
theorem dX7_hold_0 : decode cX7_hold 0 = .ok (.iload_n 1, 1) := by decide +kernel
theorem dX7_hold_1 : decode cX7_hold 1 = .ok (.bipush 11, 2) := by decide +kernel
theorem dX7_hold_3 : decode cX7_hold 3 = .ok (.if_icmp .le 32, 3) := by decide +kernel
theorem dX7_hold_6 : decode cX7_hold 6 = .ok (.iload_n 1, 1) := by decide +kernel
theorem dX7_hold_7 : decode cX7_hold 7 = .ok (.aload_n 0, 1) := by decide +kernel
theorem dX7_hold_8 : decode cX7_hold 8 = .ok (.getfield 30, 3) := by decide +kernel
theorem dX7_hold_11 : decode cX7_hold 11 = .ok (.invokevirtual 116, 3) := by decide +kernel
theorem dX7_hold_14 : decode cX7_hold 14 = .ok (.if_icmp .gt 21, 3) := by decide +kernel
theorem dX7_hold_17 : decode cX7_hold 17 = .ok (.iload_n 1, 1) := by decide +kernel
theorem dX7_hold_18 : decode cX7_hold 18 = .ok (.aload_n 0, 1) := by decide +kernel
theorem dX7_hold_19 : decode cX7_hold 19 = .ok (.getfield 20, 3) := by decide +kernel
theorem dX7_hold_22 : decode cX7_hold 22 = .ok (.arraylength, 1) := by decide +kernel
theorem dX7_hold_23 : decode cX7_hold 23 = .ok (.if_icmp .ge 12, 3) := by decide +kernel
theorem dX7_hold_26 : decode cX7_hold 26 = .ok (.aload_n 0, 1) := by decide +kernel
theorem dX7_hold_27 : decode cX7_hold 27 = .ok (.getfield 20, 3) := by decide +kernel
theorem dX7_hold_30 : decode cX7_hold 30 = .ok (.iload_n 1, 1) := by decide +kernel
theorem dX7_hold_31 : decode cX7_hold 31 = .ok (.iaload, 1) := by decide +kernel
theorem dX7_hold_32 : decode cX7_hold 32 = .ok (.ifCond .eq 5, 3) := by decide +kernel
theorem dX7_hold_35 : decode cX7_hold 35 = .ok (.iconst 0, 1) := by decide +kernel
theorem dX7_hold_36 : decode cX7_hold 36 = .ok (.ireturn, 1) := by decide +kernel
theorem dX7_hold_37 : decode cX7_hold 37 = .ok (.aload_n 0, 1) := by decide +kernel
theorem dX7_hold_38 : decode cX7_hold 38 = .ok (.getfield 20, 3) := by decide +kernel
theorem dX7_hold_41 : decode cX7_hold 41 = .ok (.iload_n 1, 1) := by decide +kernel
theorem dX7_hold_42 : decode cX7_hold 42 = .ok (.iload_n 2, 1) := by decide +kernel
theorem dX7_hold_43 : decode cX7_hold 43 = .ok (.iastore, 1) := by decide +kernel
theorem dX7_hold_44 : decode cX7_hold 44 = .ok (.iconst 1, 1) := by decide +kernel
theorem dX7_hold_45 : decode cX7_hold 45 = .ok (.ireturn, 1) := by decide +kernel
theorem dX4_links_0 : decode cX4_links 0 = .ok (.aload_n 0, 1) := by decide +kernel
theorem dX4_links_1 : decode cX4_links 1 = .ok (.getfield 9, 3) := by decide +kernel
theorem dX4_links_4 : decode cX4_links 4 = .ok (.aload_n 0, 1) := by decide +kernel
theorem dX4_links_5 : decode cX4_links 5 = .ok (.getfield 15, 3) := by decide +kernel
theorem dX4_links_8 : decode cX4_links 8 = .ok (.iload_n 1, 1) := by decide +kernel
theorem dX4_links_9 : decode cX4_links 9 = .ok (.invokevirtual 23, 3) := by decide +kernel
theorem dX4_links_12 : decode cX4_links 12 = .ok (.bipush 26, 2) := by decide +kernel
theorem dX4_links_14 : decode cX4_links 14 = .ok (.iadd, 1) := by decide +kernel
theorem dX4_links_15 : decode cX4_links 15 = .ok (.invokevirtual 29, 3) := by decide +kernel
theorem dX4_links_18 : decode cX4_links 18 = .ok (.ireturn, 1) := by decide +kernel
theorem dX7_treeHolds_0 : decode cX7_treeHolds 0 = .ok (.bipush 12, 2) := by decide +kernel
theorem dX7_treeHolds_2 : decode cX7_treeHolds 2 = .ok (.istore_n 1, 1) := by decide +kernel
theorem dX7_treeHolds_3 : decode cX7_treeHolds 3 = .ok (.iload_n 1, 1) := by decide +kernel
theorem dX7_treeHolds_4 : decode cX7_treeHolds 4 = .ok (.aload_n 0, 1) := by decide +kernel
theorem dX7_treeHolds_5 : decode cX7_treeHolds 5 = .ok (.getfield 30, 3) := by decide +kernel
theorem dX7_treeHolds_8 : decode cX7_treeHolds 8 = .ok (.invokevirtual 116, 3) := by decide +kernel
theorem dX7_treeHolds_11 : decode cX7_treeHolds 11 = .ok (.if_icmp .gt 87, 3) := by decide +kernel
theorem dX7_treeHolds_14 : decode cX7_treeHolds 14 = .ok (.aload_n 0, 1) := by decide +kernel
theorem dX7_treeHolds_15 : decode cX7_treeHolds 15 = .ok (.iload_n 1, 1) := by decide +kernel
theorem dX7_treeHolds_16 : decode cX7_treeHolds 16 = .ok (.invokevirtual 212, 3) := by decide +kernel
theorem dX7_treeHolds_19 : decode cX7_treeHolds 19 = .ok (.ifCond .eq 7, 3) := by decide +kernel
theorem dX7_treeHolds_22 : decode cX7_treeHolds 22 = .ok (.iconst 1, 1) := by decide +kernel
theorem dX7_treeHolds_23 : decode cX7_treeHolds 23 = .ok (.goto 4, 3) := by decide +kernel
theorem dX7_treeHolds_26 : decode cX7_treeHolds 26 = .ok (.iconst 0, 1) := by decide +kernel
theorem dX7_treeHolds_27 : decode cX7_treeHolds 27 = .ok (.istore_n 2, 1) := by decide +kernel
theorem dX7_treeHolds_28 : decode cX7_treeHolds 28 = .ok (.iload_n 2, 1) := by decide +kernel
theorem dX7_treeHolds_29 : decode cX7_treeHolds 29 = .ok (.aload_n 0, 1) := by decide +kernel
theorem dX7_treeHolds_30 : decode cX7_treeHolds 30 = .ok (.getfield 38, 3) := by decide +kernel
theorem dX7_treeHolds_33 : decode cX7_treeHolds 33 = .ok (.iload_n 1, 1) := by decide +kernel
theorem dX7_treeHolds_34 : decode cX7_treeHolds 34 = .ok (.invokevirtual 121, 3) := by decide +kernel
theorem dX7_treeHolds_37 : decode cX7_treeHolds 37 = .ok (.if_icmp .eq 5, 3) := by decide +kernel
theorem dX7_treeHolds_40 : decode cX7_treeHolds 40 = .ok (.iconst 0, 1) := by decide +kernel
theorem dX7_treeHolds_41 : decode cX7_treeHolds 41 = .ok (.ireturn, 1) := by decide +kernel
theorem dX7_treeHolds_42 : decode cX7_treeHolds 42 = .ok (.iload_n 2, 1) := by decide +kernel
theorem dX7_treeHolds_43 : decode cX7_treeHolds 43 = .ok (.ifCond .eq 28, 3) := by decide +kernel
theorem dX7_treeHolds_46 : decode cX7_treeHolds 46 = .ok (.aload_n 0, 1) := by decide +kernel
theorem dX7_treeHolds_47 : decode cX7_treeHolds 47 = .ok (.getfield 41, 3) := by decide +kernel
theorem dX7_treeHolds_50 : decode cX7_treeHolds 50 = .ok (.iload_n 1, 1) := by decide +kernel
theorem dX7_treeHolds_51 : decode cX7_treeHolds 51 = .ok (.invokevirtual 94, 3) := by decide +kernel
theorem dX7_treeHolds_54 : decode cX7_treeHolds 54 = .ok (.ifCond .ne 17, 3) := by decide +kernel
theorem dX7_treeHolds_57 : decode cX7_treeHolds 57 = .ok (.aload_n 0, 1) := by decide +kernel
theorem dX7_treeHolds_58 : decode cX7_treeHolds 58 = .ok (.getfield 41, 3) := by decide +kernel
theorem dX7_treeHolds_61 : decode cX7_treeHolds 61 = .ok (.iload_n 1, 1) := by decide +kernel
theorem dX7_treeHolds_62 : decode cX7_treeHolds 62 = .ok (.invokevirtual 197, 3) := by decide +kernel
theorem dX7_treeHolds_65 : decode cX7_treeHolds 65 = .ok (.iconst 1, 1) := by decide +kernel
theorem dX7_treeHolds_66 : decode cX7_treeHolds 66 = .ok (.if_icmp .eq 5, 3) := by decide +kernel
theorem dX7_treeHolds_69 : decode cX7_treeHolds 69 = .ok (.iconst 0, 1) := by decide +kernel
theorem dX7_treeHolds_70 : decode cX7_treeHolds 70 = .ok (.ireturn, 1) := by decide +kernel
theorem dX7_treeHolds_71 : decode cX7_treeHolds 71 = .ok (.aload_n 0, 1) := by decide +kernel
theorem dX7_treeHolds_72 : decode cX7_treeHolds 72 = .ok (.getfield 41, 3) := by decide +kernel
theorem dX7_treeHolds_75 : decode cX7_treeHolds 75 = .ok (.iload_n 1, 1) := by decide +kernel
theorem dX7_treeHolds_76 : decode cX7_treeHolds 76 = .ok (.invokevirtual 94, 3) := by decide +kernel
theorem dX7_treeHolds_79 : decode cX7_treeHolds 79 = .ok (.ifCond .eq 13, 3) := by decide +kernel
theorem dX7_treeHolds_82 : decode cX7_treeHolds 82 = .ok (.aload_n 0, 1) := by decide +kernel
theorem dX7_treeHolds_83 : decode cX7_treeHolds 83 = .ok (.iload_n 1, 1) := by decide +kernel
theorem dX7_treeHolds_84 : decode cX7_treeHolds 84 = .ok (.invokevirtual 215, 3) := by decide +kernel
theorem dX7_treeHolds_87 : decode cX7_treeHolds 87 = .ok (.ifCond .ne 5, 3) := by decide +kernel
theorem dX7_treeHolds_90 : decode cX7_treeHolds 90 = .ok (.iconst 0, 1) := by decide +kernel
theorem dX7_treeHolds_91 : decode cX7_treeHolds 91 = .ok (.ireturn, 1) := by decide +kernel
theorem dX7_treeHolds_92 : decode cX7_treeHolds 92 = .ok (.iinc 1 1, 3) := by decide +kernel
theorem dX7_treeHolds_95 : decode cX7_treeHolds 95 = .ok (.goto (-92), 3) := by decide +kernel
theorem dX7_treeHolds_98 : decode cX7_treeHolds 98 = .ok (.aload_n 0, 1) := by decide +kernel
theorem dX7_treeHolds_99 : decode cX7_treeHolds 99 = .ok (.getfield 41, 3) := by decide +kernel
theorem dX7_treeHolds_102 : decode cX7_treeHolds 102 = .ok (.iconst 2, 1) := by decide +kernel
theorem dX7_treeHolds_103 : decode cX7_treeHolds 103 = .ok (.invokevirtual 94, 3) := by decide +kernel
theorem dX7_treeHolds_106 : decode cX7_treeHolds 106 = .ok (.ifCond .eq 16, 3) := by decide +kernel
theorem dX7_treeHolds_109 : decode cX7_treeHolds 109 = .ok (.aload_n 0, 1) := by decide +kernel
theorem dX7_treeHolds_110 : decode cX7_treeHolds 110 = .ok (.iconst 2, 1) := by decide +kernel
theorem dX7_treeHolds_111 : decode cX7_treeHolds 111 = .ok (.invokevirtual 218, 3) := by decide +kernel
theorem dX7_treeHolds_114 : decode cX7_treeHolds 114 = .ok (.iconst 2, 1) := by decide +kernel
theorem dX7_treeHolds_115 : decode cX7_treeHolds 115 = .ok (.if_icmp .ne 7, 3) := by decide +kernel
theorem dX7_treeHolds_118 : decode cX7_treeHolds 118 = .ok (.iconst 1, 1) := by decide +kernel
theorem dX7_treeHolds_119 : decode cX7_treeHolds 119 = .ok (.goto 4, 3) := by decide +kernel
theorem dX7_treeHolds_122 : decode cX7_treeHolds 122 = .ok (.iconst 0, 1) := by decide +kernel
theorem dX7_treeHolds_123 : decode cX7_treeHolds 123 = .ok (.ireturn, 1) := by decide +kernel
theorem dX7_holderOf_0 : decode cX7_holderOf 0 = .ok (.iload_n 1, 1) := by decide +kernel
theorem dX7_holderOf_1 : decode cX7_holderOf 1 = .ok (.ifCond .lt 21, 3) := by decide +kernel
theorem dX7_holderOf_4 : decode cX7_holderOf 4 = .ok (.iload_n 1, 1) := by decide +kernel
theorem dX7_holderOf_5 : decode cX7_holderOf 5 = .ok (.aload_n 0, 1) := by decide +kernel
theorem dX7_holderOf_6 : decode cX7_holderOf 6 = .ok (.getfield 20, 3) := by decide +kernel
theorem dX7_holderOf_9 : decode cX7_holderOf 9 = .ok (.arraylength, 1) := by decide +kernel
theorem dX7_holderOf_10 : decode cX7_holderOf 10 = .ok (.if_icmp .ge 12, 3) := by decide +kernel
theorem dX7_holderOf_13 : decode cX7_holderOf 13 = .ok (.aload_n 0, 1) := by decide +kernel
theorem dX7_holderOf_14 : decode cX7_holderOf 14 = .ok (.getfield 20, 3) := by decide +kernel
theorem dX7_holderOf_17 : decode cX7_holderOf 17 = .ok (.iload_n 1, 1) := by decide +kernel
theorem dX7_holderOf_18 : decode cX7_holderOf 18 = .ok (.iaload, 1) := by decide +kernel
theorem dX7_holderOf_19 : decode cX7_holderOf 19 = .ok (.goto 4, 3) := by decide +kernel
theorem dX7_holderOf_22 : decode cX7_holderOf 22 = .ok (.iconst 0, 1) := by decide +kernel
theorem dX7_holderOf_23 : decode cX7_holderOf 23 = .ok (.ireturn, 1) := by decide +kernel
theorem dX7_parentHolds_0 : decode cX7_parentHolds 0 = .ok (.aload_n 0, 1) := by decide +kernel
theorem dX7_parentHolds_1 : decode cX7_parentHolds 1 = .ok (.iload_n 1, 1) := by decide +kernel
theorem dX7_parentHolds_2 : decode cX7_parentHolds 2 = .ok (.invokevirtual 218, 3) := by decide +kernel
theorem dX7_parentHolds_5 : decode cX7_parentHolds 5 = .ok (.aload_n 0, 1) := by decide +kernel
theorem dX7_parentHolds_6 : decode cX7_parentHolds 6 = .ok (.iload_n 1, 1) := by decide +kernel
theorem dX7_parentHolds_7 : decode cX7_parentHolds 7 = .ok (.invokevirtual 212, 3) := by decide +kernel
theorem dX7_parentHolds_10 : decode cX7_parentHolds 10 = .ok (.if_icmp .eq 5, 3) := by decide +kernel
theorem dX7_parentHolds_13 : decode cX7_parentHolds 13 = .ok (.iconst 0, 1) := by decide +kernel
theorem dX7_parentHolds_14 : decode cX7_parentHolds 14 = .ok (.ireturn, 1) := by decide +kernel
theorem dX7_parentHolds_15 : decode cX7_parentHolds 15 = .ok (.iload_n 1, 1) := by decide +kernel
theorem dX7_parentHolds_16 : decode cX7_parentHolds 16 = .ok (.istore_n 2, 1) := by decide +kernel
theorem dX7_parentHolds_17 : decode cX7_parentHolds 17 = .ok (.iconst 0, 1) := by decide +kernel
theorem dX7_parentHolds_18 : decode cX7_parentHolds 18 = .ok (.istore_n 3, 1) := by decide +kernel
theorem dX7_parentHolds_19 : decode cX7_parentHolds 19 = .ok (.iload_n 3, 1) := by decide +kernel
theorem dX7_parentHolds_20 : decode cX7_parentHolds 20 = .ok (.sipush 2064, 3) := by decide +kernel
theorem dX7_parentHolds_23 : decode cX7_parentHolds 23 = .ok (.if_icmp .ge 24, 3) := by decide +kernel
theorem dX7_parentHolds_26 : decode cX7_parentHolds 26 = .ok (.iload_n 2, 1) := by decide +kernel
theorem dX7_parentHolds_27 : decode cX7_parentHolds 27 = .ok (.iconst 2, 1) := by decide +kernel
theorem dX7_parentHolds_28 : decode cX7_parentHolds 28 = .ok (.if_icmp .eq 19, 3) := by decide +kernel
theorem dX7_parentHolds_31 : decode cX7_parentHolds 31 = .ok (.iload_n 2, 1) := by decide +kernel
theorem dX7_parentHolds_32 : decode cX7_parentHolds 32 = .ok (.ifCond .eq 15, 3) := by decide +kernel
theorem dX7_parentHolds_35 : decode cX7_parentHolds 35 = .ok (.aload_n 0, 1) := by decide +kernel
theorem dX7_parentHolds_36 : decode cX7_parentHolds 36 = .ok (.iload_n 2, 1) := by decide +kernel
theorem dX7_parentHolds_37 : decode cX7_parentHolds 37 = .ok (.invokevirtual 212, 3) := by decide +kernel
theorem dX7_parentHolds_40 : decode cX7_parentHolds 40 = .ok (.istore_n 2, 1) := by decide +kernel
theorem dX7_parentHolds_41 : decode cX7_parentHolds 41 = .ok (.iinc 3 1, 3) := by decide +kernel
theorem dX7_parentHolds_44 : decode cX7_parentHolds 44 = .ok (.goto (-25), 3) := by decide +kernel
theorem dX7_parentHolds_47 : decode cX7_parentHolds 47 = .ok (.iload_n 2, 1) := by decide +kernel
theorem dX7_parentHolds_48 : decode cX7_parentHolds 48 = .ok (.iconst 2, 1) := by decide +kernel
theorem dX7_parentHolds_49 : decode cX7_parentHolds 49 = .ok (.if_icmp .ne 7, 3) := by decide +kernel
theorem dX7_parentHolds_52 : decode cX7_parentHolds 52 = .ok (.iconst 1, 1) := by decide +kernel
theorem dX7_parentHolds_53 : decode cX7_parentHolds 53 = .ok (.goto 4, 3) := by decide +kernel
theorem dX7_parentHolds_56 : decode cX7_parentHolds 56 = .ok (.iconst 0, 1) := by decide +kernel
theorem dX7_parentHolds_57 : decode cX7_parentHolds 57 = .ok (.ireturn, 1) := by decide +kernel
theorem dX7_parentOf_0 : decode cX7_parentOf 0 = .ok (.iload_n 1, 1) := by decide +kernel
theorem dX7_parentOf_1 : decode cX7_parentOf 1 = .ok (.ifCond .lt 21, 3) := by decide +kernel
theorem dX7_parentOf_4 : decode cX7_parentOf 4 = .ok (.iload_n 1, 1) := by decide +kernel
theorem dX7_parentOf_5 : decode cX7_parentOf 5 = .ok (.aload_n 0, 1) := by decide +kernel
theorem dX7_parentOf_6 : decode cX7_parentOf 6 = .ok (.getfield 24, 3) := by decide +kernel
theorem dX7_parentOf_9 : decode cX7_parentOf 9 = .ok (.arraylength, 1) := by decide +kernel
theorem dX7_parentOf_10 : decode cX7_parentOf 10 = .ok (.if_icmp .ge 12, 3) := by decide +kernel
theorem dX7_parentOf_13 : decode cX7_parentOf 13 = .ok (.aload_n 0, 1) := by decide +kernel
theorem dX7_parentOf_14 : decode cX7_parentOf 14 = .ok (.getfield 24, 3) := by decide +kernel
theorem dX7_parentOf_17 : decode cX7_parentOf 17 = .ok (.iload_n 1, 1) := by decide +kernel
theorem dX7_parentOf_18 : decode cX7_parentOf 18 = .ok (.iaload, 1) := by decide +kernel
theorem dX7_parentOf_19 : decode cX7_parentOf 19 = .ok (.goto 4, 3) := by decide +kernel
theorem dX7_parentOf_22 : decode cX7_parentOf 22 = .ok (.iconst 0, 1) := by decide +kernel
theorem dX7_parentOf_23 : decode cX7_parentOf 23 = .ok (.ireturn, 1) := by decide +kernel
theorem dX7_mapsHold_0 : decode cX7_mapsHold 0 = .ok (.iconst 1, 1) := by decide +kernel
theorem dX7_mapsHold_1 : decode cX7_mapsHold 1 = .ok (.istore_n 1, 1) := by decide +kernel
theorem dX7_mapsHold_2 : decode cX7_mapsHold 2 = .ok (.iload_n 1, 1) := by decide +kernel
theorem dX7_mapsHold_3 : decode cX7_mapsHold 3 = .ok (.aload_n 0, 1) := by decide +kernel
theorem dX7_mapsHold_4 : decode cX7_mapsHold 4 = .ok (.getfield 65, 3) := by decide +kernel
theorem dX7_mapsHold_7 : decode cX7_mapsHold 7 = .ok (.arraylength, 1) := by decide +kernel
theorem dX7_mapsHold_8 : decode cX7_mapsHold 8 = .ok (.if_icmp .ge 36, 3) := by decide +kernel
theorem dX7_mapsHold_11 : decode cX7_mapsHold 11 = .ok (.aload_n 0, 1) := by decide +kernel
theorem dX7_mapsHold_12 : decode cX7_mapsHold 12 = .ok (.getfield 34, 3) := by decide +kernel
theorem dX7_mapsHold_15 : decode cX7_mapsHold 15 = .ok (.iload_n 1, 1) := by decide +kernel
theorem dX7_mapsHold_16 : decode cX7_mapsHold 16 = .ok (.invokevirtual 121, 3) := by decide +kernel
theorem dX7_mapsHold_19 : decode cX7_mapsHold 19 = .ok (.aload_n 0, 1) := by decide +kernel
theorem dX7_mapsHold_20 : decode cX7_mapsHold 20 = .ok (.getfield 65, 3) := by decide +kernel
theorem dX7_mapsHold_23 : decode cX7_mapsHold 23 = .ok (.iload_n 1, 1) := by decide +kernel
theorem dX7_mapsHold_24 : decode cX7_mapsHold 24 = .ok (.baload, 1) := by decide +kernel
theorem dX7_mapsHold_25 : decode cX7_mapsHold 25 = .ok (.ifCond .eq 7, 3) := by decide +kernel
theorem dX7_mapsHold_28 : decode cX7_mapsHold 28 = .ok (.iconst 1, 1) := by decide +kernel
theorem dX7_mapsHold_29 : decode cX7_mapsHold 29 = .ok (.goto 4, 3) := by decide +kernel
theorem dX7_mapsHold_32 : decode cX7_mapsHold 32 = .ok (.iconst 0, 1) := by decide +kernel
theorem dX7_mapsHold_33 : decode cX7_mapsHold 33 = .ok (.if_icmp .eq 5, 3) := by decide +kernel
theorem dX7_mapsHold_36 : decode cX7_mapsHold 36 = .ok (.iconst 0, 1) := by decide +kernel
theorem dX7_mapsHold_37 : decode cX7_mapsHold 37 = .ok (.ireturn, 1) := by decide +kernel
theorem dX7_mapsHold_38 : decode cX7_mapsHold 38 = .ok (.iinc 1 1, 3) := by decide +kernel
theorem dX7_mapsHold_41 : decode cX7_mapsHold 41 = .ok (.goto (-39), 3) := by decide +kernel
theorem dX7_mapsHold_44 : decode cX7_mapsHold 44 = .ok (.iconst 1, 1) := by decide +kernel
theorem dX7_mapsHold_45 : decode cX7_mapsHold 45 = .ok (.istore_n 1, 1) := by decide +kernel
theorem dX7_mapsHold_46 : decode cX7_mapsHold 46 = .ok (.iload_n 1, 1) := by decide +kernel
theorem dX7_mapsHold_47 : decode cX7_mapsHold 47 = .ok (.bipush 11, 2) := by decide +kernel
theorem dX7_mapsHold_49 : decode cX7_mapsHold 49 = .ok (.if_icmp .gt 22, 3) := by decide +kernel
theorem dX7_mapsHold_52 : decode cX7_mapsHold 52 = .ok (.aload_n 0, 1) := by decide +kernel
theorem dX7_mapsHold_53 : decode cX7_mapsHold 53 = .ok (.getfield 38, 3) := by decide +kernel
theorem dX7_mapsHold_56 : decode cX7_mapsHold 56 = .ok (.iload_n 1, 1) := by decide +kernel
theorem dX7_mapsHold_57 : decode cX7_mapsHold 57 = .ok (.invokevirtual 121, 3) := by decide +kernel
theorem dX7_mapsHold_60 : decode cX7_mapsHold 60 = .ok (.ifCond .ne 5, 3) := by decide +kernel
theorem dX7_mapsHold_63 : decode cX7_mapsHold 63 = .ok (.iconst 0, 1) := by decide +kernel
theorem dX7_mapsHold_64 : decode cX7_mapsHold 64 = .ok (.ireturn, 1) := by decide +kernel
theorem dX7_mapsHold_65 : decode cX7_mapsHold 65 = .ok (.iinc 1 1, 3) := by decide +kernel
theorem dX7_mapsHold_68 : decode cX7_mapsHold 68 = .ok (.goto (-22), 3) := by decide +kernel
theorem dX7_mapsHold_71 : decode cX7_mapsHold 71 = .ok (.iconst 0, 1) := by decide +kernel
theorem dX7_mapsHold_72 : decode cX7_mapsHold 72 = .ok (.istore_n 1, 1) := by decide +kernel
theorem dX7_mapsHold_73 : decode cX7_mapsHold 73 = .ok (.iload_n 1, 1) := by decide +kernel
theorem dX7_mapsHold_74 : decode cX7_mapsHold 74 = .ok (.aload_n 0, 1) := by decide +kernel
theorem dX7_mapsHold_75 : decode cX7_mapsHold 75 = .ok (.getfield 30, 3) := by decide +kernel
theorem dX7_mapsHold_78 : decode cX7_mapsHold 78 = .ok (.invokevirtual 103, 3) := by decide +kernel
theorem dX7_mapsHold_81 : decode cX7_mapsHold 81 = .ok (.if_icmp .ge 33, 3) := by decide +kernel
theorem dX7_mapsHold_84 : decode cX7_mapsHold 84 = .ok (.aload_n 0, 1) := by decide +kernel
theorem dX7_mapsHold_85 : decode cX7_mapsHold 85 = .ok (.getfield 34, 3) := by decide +kernel
theorem dX7_mapsHold_88 : decode cX7_mapsHold 88 = .ok (.iload_n 1, 1) := by decide +kernel
theorem dX7_mapsHold_89 : decode cX7_mapsHold 89 = .ok (.invokevirtual 221, 3) := by decide +kernel
theorem dX7_mapsHold_92 : decode cX7_mapsHold 92 = .ok (.ifCond .eq 14, 3) := by decide +kernel
theorem dX7_mapsHold_95 : decode cX7_mapsHold 95 = .ok (.aload_n 0, 1) := by decide +kernel
theorem dX7_mapsHold_96 : decode cX7_mapsHold 96 = .ok (.getfield 38, 3) := by decide +kernel
theorem dX7_mapsHold_99 : decode cX7_mapsHold 99 = .ok (.iload_n 1, 1) := by decide +kernel
theorem dX7_mapsHold_100 : decode cX7_mapsHold 100 = .ok (.invokevirtual 221, 3) := by decide +kernel
theorem dX7_mapsHold_103 : decode cX7_mapsHold 103 = .ok (.ifCond .ne 5, 3) := by decide +kernel
theorem dX7_mapsHold_106 : decode cX7_mapsHold 106 = .ok (.iconst 0, 1) := by decide +kernel
theorem dX7_mapsHold_107 : decode cX7_mapsHold 107 = .ok (.ireturn, 1) := by decide +kernel
theorem dX7_mapsHold_108 : decode cX7_mapsHold 108 = .ok (.iinc 1 1, 3) := by decide +kernel
theorem dX7_mapsHold_111 : decode cX7_mapsHold 111 = .ok (.goto (-38), 3) := by decide +kernel
theorem dX7_mapsHold_114 : decode cX7_mapsHold 114 = .ok (.iconst 1, 1) := by decide +kernel
theorem dX7_mapsHold_115 : decode cX7_mapsHold 115 = .ok (.ireturn, 1) := by decide +kernel
theorem dX3_tailHolds_0 : decode cX3_tailHolds 0 = .ok (.aload_n 0, 1) := by decide +kernel
theorem dX3_tailHolds_1 : decode cX3_tailHolds 1 = .ok (.iload_n 1, 1) := by decide +kernel
theorem dX3_tailHolds_2 : decode cX3_tailHolds 2 = .ok (.invokevirtual 61, 3) := by decide +kernel
theorem dX3_tailHolds_5 : decode cX3_tailHolds 5 = .ok (.istore_n 2, 1) := by decide +kernel
theorem dX3_tailHolds_6 : decode cX3_tailHolds 6 = .ok (.aload_n 0, 1) := by decide +kernel
theorem dX3_tailHolds_7 : decode cX3_tailHolds 7 = .ok (.getfield 15, 3) := by decide +kernel
theorem dX3_tailHolds_10 : decode cX3_tailHolds 10 = .ok (.iload_n 1, 1) := by decide +kernel
theorem dX3_tailHolds_11 : decode cX3_tailHolds 11 = .ok (.aload_n 0, 1) := by decide +kernel
theorem dX3_tailHolds_12 : decode cX3_tailHolds 12 = .ok (.getfield 19, 3) := by decide +kernel
theorem dX3_tailHolds_15 : decode cX3_tailHolds 15 = .ok (.invokevirtual 51, 3) := by decide +kernel
theorem dX3_tailHolds_18 : decode cX3_tailHolds 18 = .ok (.istore_n 3, 1) := by decide +kernel
theorem dX3_tailHolds_19 : decode cX3_tailHolds 19 = .ok (.iload_n 2, 1) := by decide +kernel
theorem dX3_tailHolds_20 : decode cX3_tailHolds 20 = .ok (.bipush 8, 2) := by decide +kernel
theorem dX3_tailHolds_22 : decode cX3_tailHolds 22 = .ok (.idiv, 1) := by decide +kernel
theorem dX3_tailHolds_23 : decode cX3_tailHolds 23 = .ok (.istore 4, 2) := by decide +kernel
theorem dX3_tailHolds_25 : decode cX3_tailHolds 25 = .ok (.iload 4, 2) := by decide +kernel
theorem dX3_tailHolds_27 : decode cX3_tailHolds 27 = .ok (.sipush 1024, 3) := by decide +kernel
theorem dX3_tailHolds_30 : decode cX3_tailHolds 30 = .ok (.if_icmp .ge 59, 3) := by decide +kernel
theorem dX3_tailHolds_33 : decode cX3_tailHolds 33 = .ok (.iload 4, 2) := by decide +kernel
theorem dX3_tailHolds_35 : decode cX3_tailHolds 35 = .ok (.iload_n 2, 1) := by decide +kernel
theorem dX3_tailHolds_36 : decode cX3_tailHolds 36 = .ok (.bipush 8, 2) := by decide +kernel
theorem dX3_tailHolds_38 : decode cX3_tailHolds 38 = .ok (.idiv, 1) := by decide +kernel
theorem dX3_tailHolds_39 : decode cX3_tailHolds 39 = .ok (.if_icmp .ne 18, 3) := by decide +kernel
theorem dX3_tailHolds_42 : decode cX3_tailHolds 42 = .ok (.sipush 255, 3) := by decide +kernel
theorem dX3_tailHolds_45 : decode cX3_tailHolds 45 = .ok (.iload_n 2, 1) := by decide +kernel
theorem dX3_tailHolds_46 : decode cX3_tailHolds 46 = .ok (.bipush 8, 2) := by decide +kernel
theorem dX3_tailHolds_48 : decode cX3_tailHolds 48 = .ok (.irem, 1) := by decide +kernel
theorem dX3_tailHolds_49 : decode cX3_tailHolds 49 = .ok (.ishl, 1) := by decide +kernel
theorem dX3_tailHolds_50 : decode cX3_tailHolds 50 = .ok (.sipush 255, 3) := by decide +kernel
theorem dX3_tailHolds_53 : decode cX3_tailHolds 53 = .ok (.iand, 1) := by decide +kernel
theorem dX3_tailHolds_54 : decode cX3_tailHolds 54 = .ok (.goto 6, 3) := by decide +kernel
theorem dX3_tailHolds_57 : decode cX3_tailHolds 57 = .ok (.sipush 255, 3) := by decide +kernel
theorem dX3_tailHolds_60 : decode cX3_tailHolds 60 = .ok (.istore 5, 2) := by decide +kernel
theorem dX3_tailHolds_62 : decode cX3_tailHolds 62 = .ok (.aload_n 0, 1) := by decide +kernel
theorem dX3_tailHolds_63 : decode cX3_tailHolds 63 = .ok (.getfield 9, 3) := by decide +kernel
theorem dX3_tailHolds_66 : decode cX3_tailHolds 66 = .ok (.iload_n 3, 1) := by decide +kernel
theorem dX3_tailHolds_67 : decode cX3_tailHolds 67 = .ok (.iload 4, 2) := by decide +kernel
theorem dX3_tailHolds_69 : decode cX3_tailHolds 69 = .ok (.iadd, 1) := by decide +kernel
theorem dX3_tailHolds_70 : decode cX3_tailHolds 70 = .ok (.invokevirtual 64, 3) := by decide +kernel
theorem dX3_tailHolds_73 : decode cX3_tailHolds 73 = .ok (.iload 5, 2) := by decide +kernel
theorem dX3_tailHolds_75 : decode cX3_tailHolds 75 = .ok (.iand, 1) := by decide +kernel
theorem dX3_tailHolds_76 : decode cX3_tailHolds 76 = .ok (.iload 5, 2) := by decide +kernel
theorem dX3_tailHolds_78 : decode cX3_tailHolds 78 = .ok (.if_icmp .eq 5, 3) := by decide +kernel
theorem dX3_tailHolds_81 : decode cX3_tailHolds 81 = .ok (.iconst 0, 1) := by decide +kernel
theorem dX3_tailHolds_82 : decode cX3_tailHolds 82 = .ok (.ireturn, 1) := by decide +kernel
theorem dX3_tailHolds_83 : decode cX3_tailHolds 83 = .ok (.iinc 4 1, 3) := by decide +kernel
theorem dX3_tailHolds_86 : decode cX3_tailHolds 86 = .ok (.goto (-61), 3) := by decide +kernel
theorem dX3_tailHolds_89 : decode cX3_tailHolds 89 = .ok (.iconst 1, 1) := by decide +kernel
theorem dX3_tailHolds_90 : decode cX3_tailHolds 90 = .ok (.ireturn, 1) := by decide +kernel
theorem dX3_realIn_0 : decode cX3_realIn 0 = .ok (.aload_n 0, 1) := by decide +kernel
theorem dX3_realIn_1 : decode cX3_realIn 1 = .ok (.getfield 19, 3) := by decide +kernel
theorem dX3_realIn_4 : decode cX3_realIn 4 = .ok (.iconst 2, 1) := by decide +kernel
theorem dX3_realIn_5 : decode cX3_realIn 5 = .ok (.if_icmp .ne 14, 3) := by decide +kernel
theorem dX3_realIn_8 : decode cX3_realIn 8 = .ok (.aload_n 0, 1) := by decide +kernel
theorem dX3_realIn_9 : decode cX3_realIn 9 = .ok (.getfield 15, 3) := by decide +kernel
theorem dX3_realIn_12 : decode cX3_realIn 12 = .ok (.iload_n 1, 1) := by decide +kernel
theorem dX3_realIn_13 : decode cX3_realIn 13 = .ok (.invokevirtual 29, 3) := by decide +kernel
theorem dX3_realIn_16 : decode cX3_realIn 16 = .ok (.goto 10, 3) := by decide +kernel
theorem dX3_realIn_19 : decode cX3_realIn 19 = .ok (.aload_n 0, 1) := by decide +kernel
theorem dX3_realIn_20 : decode cX3_realIn 20 = .ok (.getfield 15, 3) := by decide +kernel
theorem dX3_realIn_23 : decode cX3_realIn 23 = .ok (.invokevirtual 35, 3) := by decide +kernel
theorem dX3_realIn_26 : decode cX3_realIn 26 = .ok (.ireturn, 1) := by decide +kernel
theorem dX2_blocksIn_0 : decode cX2_blocksIn 0 = .ok (.aload_n 0, 1) := by decide +kernel
theorem dX2_blocksIn_1 : decode cX2_blocksIn 1 = .ok (.getfield 15, 3) := by decide +kernel
theorem dX2_blocksIn_4 : decode cX2_blocksIn 4 = .ok (.aload_n 0, 1) := by decide +kernel
theorem dX2_blocksIn_5 : decode cX2_blocksIn 5 = .ok (.getfield 9, 3) := by decide +kernel
theorem dX2_blocksIn_8 : decode cX2_blocksIn 8 = .ok (.aload_n 0, 1) := by decide +kernel
theorem dX2_blocksIn_9 : decode cX2_blocksIn 9 = .ok (.iload_n 1, 1) := by decide +kernel
theorem dX2_blocksIn_10 : decode cX2_blocksIn 10 = .ok (.invokevirtual 24, 3) := by decide +kernel
theorem dX2_blocksIn_13 : decode cX2_blocksIn 13 = .ok (.isub, 1) := by decide +kernel
theorem dX2_blocksIn_14 : decode cX2_blocksIn 14 = .ok (.invokestatic 28, 3) := by decide +kernel
theorem dX2_blocksIn_17 : decode cX2_blocksIn 17 = .ok (.ireturn, 1) := by decide +kernel
theorem dX2_groupInodes_0 : decode cX2_groupInodes 0 = .ok (.aload_n 0, 1) := by decide +kernel
theorem dX2_groupInodes_1 : decode cX2_groupInodes 1 = .ok (.getfield 21, 3) := by decide +kernel
theorem dX2_groupInodes_4 : decode cX2_groupInodes 4 = .ok (.ireturn, 1) := by decide +kernel
theorem dX7_headsHold_0 : decode cX7_headsHold 0 = .ok (.aload_n 0, 1) := by decide +kernel
theorem dX7_headsHold_1 : decode cX7_headsHold 1 = .ok (.getfield 14, 3) := by decide +kernel
theorem dX7_headsHold_4 : decode cX7_headsHold 4 = .ok (.iconst 0, 1) := by decide +kernel
theorem dX7_headsHold_5 : decode cX7_headsHold 5 = .ok (.aload_n 0, 1) := by decide +kernel
theorem dX7_headsHold_6 : decode cX7_headsHold 6 = .ok (.getfield 14, 3) := by decide +kernel
theorem dX7_headsHold_9 : decode cX7_headsHold 9 = .ok (.invokevirtual 140, 3) := by decide +kernel
theorem dX7_headsHold_12 : decode cX7_headsHold 12 = .ok (.iconst 0, 1) := by decide +kernel
theorem dX7_headsHold_13 : decode cX7_headsHold 13 = .ok (.invokevirtual 224, 3) := by decide +kernel
theorem dX7_headsHold_16 : decode cX7_headsHold 16 = .ok (.aload_n 0, 1) := by decide +kernel
theorem dX7_headsHold_17 : decode cX7_headsHold 17 = .ok (.getfield 49, 3) := by decide +kernel
theorem dX7_headsHold_20 : decode cX7_headsHold 20 = .ok (.aload_n 0, 1) := by decide +kernel
theorem dX7_headsHold_21 : decode cX7_headsHold 21 = .ok (.getfield 14, 3) := by decide +kernel
theorem dX7_headsHold_24 : decode cX7_headsHold 24 = .ok (.iconst 0, 1) := by decide +kernel
theorem dX7_headsHold_25 : decode cX7_headsHold 25 = .ok (.aload_n 0, 1) := by decide +kernel
theorem dX7_headsHold_26 : decode cX7_headsHold 26 = .ok (.getfield 27, 3) := by decide +kernel
theorem dX7_headsHold_29 : decode cX7_headsHold 29 = .ok (.sipush 1128, 3) := by decide +kernel
theorem dX7_headsHold_32 : decode cX7_headsHold 32 = .ok (.invokevirtual 136, 3) := by decide +kernel
theorem dX7_headsHold_35 : decode cX7_headsHold 35 = .ok (.invokevirtual 227, 3) := by decide +kernel
theorem dX7_headsHold_38 : decode cX7_headsHold 38 = .ok (.iconst 0, 1) := by decide +kernel
theorem dX7_headsHold_39 : decode cX7_headsHold 39 = .ok (.istore_n 1, 1) := by decide +kernel
theorem dX7_headsHold_40 : decode cX7_headsHold 40 = .ok (.iload_n 1, 1) := by decide +kernel
theorem dX7_headsHold_41 : decode cX7_headsHold 41 = .ok (.aload_n 0, 1) := by decide +kernel
theorem dX7_headsHold_42 : decode cX7_headsHold 42 = .ok (.getfield 30, 3) := by decide +kernel
theorem dX7_headsHold_45 : decode cX7_headsHold 45 = .ok (.invokevirtual 103, 3) := by decide +kernel
theorem dX7_headsHold_48 : decode cX7_headsHold 48 = .ok (.if_icmp .ge 71, 3) := by decide +kernel
theorem dX7_headsHold_51 : decode cX7_headsHold 51 = .ok (.aload_n 0, 1) := by decide +kernel
theorem dX7_headsHold_52 : decode cX7_headsHold 52 = .ok (.getfield 14, 3) := by decide +kernel
theorem dX7_headsHold_55 : decode cX7_headsHold 55 = .ok (.bipush 90, 2) := by decide +kernel
theorem dX7_headsHold_57 : decode cX7_headsHold 57 = .ok (.iload_n 1, 1) := by decide +kernel
theorem dX7_headsHold_58 : decode cX7_headsHold 58 = .ok (.invokevirtual 233, 3) := by decide +kernel
theorem dX7_headsHold_61 : decode cX7_headsHold 61 = .ok (.aload_n 0, 1) := by decide +kernel
theorem dX7_headsHold_62 : decode cX7_headsHold 62 = .ok (.getfield 30, 3) := by decide +kernel
theorem dX7_headsHold_65 : decode cX7_headsHold 65 = .ok (.iload_n 1, 1) := by decide +kernel
theorem dX7_headsHold_66 : decode cX7_headsHold 66 = .ok (.iconst 0, 1) := by decide +kernel
theorem dX7_headsHold_67 : decode cX7_headsHold 67 = .ok (.invokevirtual 237, 3) := by decide +kernel
theorem dX7_headsHold_70 : decode cX7_headsHold 70 = .ok (.istore_n 2, 1) := by decide +kernel
theorem dX7_headsHold_71 : decode cX7_headsHold 71 = .ok (.iconst 0, 1) := by decide +kernel
theorem dX7_headsHold_72 : decode cX7_headsHold 72 = .ok (.istore_n 3, 1) := by decide +kernel
theorem dX7_headsHold_73 : decode cX7_headsHold 73 = .ok (.iload_n 3, 1) := by decide +kernel
theorem dX7_headsHold_74 : decode cX7_headsHold 74 = .ok (.aload_n 0, 1) := by decide +kernel
theorem dX7_headsHold_75 : decode cX7_headsHold 75 = .ok (.getfield 14, 3) := by decide +kernel
theorem dX7_headsHold_78 : decode cX7_headsHold 78 = .ok (.invokevirtual 140, 3) := by decide +kernel
theorem dX7_headsHold_81 : decode cX7_headsHold 81 = .ok (.if_icmp .ge 32, 3) := by decide +kernel
theorem dX7_headsHold_84 : decode cX7_headsHold 84 = .ok (.aload_n 0, 1) := by decide +kernel
theorem dX7_headsHold_85 : decode cX7_headsHold 85 = .ok (.getfield 27, 3) := by decide +kernel
theorem dX7_headsHold_88 : decode cX7_headsHold 88 = .ok (.iload_n 2, 1) := by decide +kernel
theorem dX7_headsHold_89 : decode cX7_headsHold 89 = .ok (.iload_n 3, 1) := by decide +kernel
theorem dX7_headsHold_90 : decode cX7_headsHold 90 = .ok (.iadd, 1) := by decide +kernel
theorem dX7_headsHold_91 : decode cX7_headsHold 91 = .ok (.invokevirtual 206, 3) := by decide +kernel
theorem dX7_headsHold_94 : decode cX7_headsHold 94 = .ok (.aload_n 0, 1) := by decide +kernel
theorem dX7_headsHold_95 : decode cX7_headsHold 95 = .ok (.getfield 14, 3) := by decide +kernel
theorem dX7_headsHold_98 : decode cX7_headsHold 98 = .ok (.iload_n 3, 1) := by decide +kernel
theorem dX7_headsHold_99 : decode cX7_headsHold 99 = .ok (.invokevirtual 206, 3) := by decide +kernel
theorem dX7_headsHold_102 : decode cX7_headsHold 102 = .ok (.if_icmp .eq 5, 3) := by decide +kernel
theorem dX7_headsHold_105 : decode cX7_headsHold 105 = .ok (.iconst 0, 1) := by decide +kernel
theorem dX7_headsHold_106 : decode cX7_headsHold 106 = .ok (.ireturn, 1) := by decide +kernel
theorem dX7_headsHold_107 : decode cX7_headsHold 107 = .ok (.iinc 3 1, 3) := by decide +kernel
theorem dX7_headsHold_110 : decode cX7_headsHold 110 = .ok (.goto (-37), 3) := by decide +kernel
theorem dX7_headsHold_113 : decode cX7_headsHold 113 = .ok (.iinc 1 1, 3) := by decide +kernel
theorem dX7_headsHold_116 : decode cX7_headsHold 116 = .ok (.goto (-76), 3) := by decide +kernel
theorem dX7_headsHold_119 : decode cX7_headsHold 119 = .ok (.iconst 1, 1) := by decide +kernel
theorem dX7_headsHold_120 : decode cX7_headsHold 120 = .ok (.ireturn, 1) := by decide +kernel
theorem dX1_fill_0 : decode cX1_fill 0 = .ok (.iload_n 1, 1) := by decide +kernel
theorem dX1_fill_1 : decode cX1_fill 1 = .ok (.ifCond .lt 28, 3) := by decide +kernel
theorem dX1_fill_4 : decode cX1_fill 4 = .ok (.iload_n 1, 1) := by decide +kernel
theorem dX1_fill_5 : decode cX1_fill 5 = .ok (.iload_n 2, 1) := by decide +kernel
theorem dX1_fill_6 : decode cX1_fill 6 = .ok (.if_icmp .gt 23, 3) := by decide +kernel
theorem dX1_fill_9 : decode cX1_fill 9 = .ok (.iload_n 2, 1) := by decide +kernel
theorem dX1_fill_10 : decode cX1_fill 10 = .ok (.aload_n 0, 1) := by decide +kernel
theorem dX1_fill_11 : decode cX1_fill 11 = .ok (.getfield 15, 3) := by decide +kernel
theorem dX1_fill_14 : decode cX1_fill 14 = .ok (.arraylength, 1) := by decide +kernel
theorem dX1_fill_15 : decode cX1_fill 15 = .ok (.if_icmp .gt 14, 3) := by decide +kernel
theorem dX1_fill_18 : decode cX1_fill 18 = .ok (.aload_n 0, 1) := by decide +kernel
theorem dX1_fill_19 : decode cX1_fill 19 = .ok (.getfield 15, 3) := by decide +kernel
theorem dX1_fill_22 : decode cX1_fill 22 = .ok (.iload_n 1, 1) := by decide +kernel
theorem dX1_fill_23 : decode cX1_fill 23 = .ok (.iload_n 2, 1) := by decide +kernel
theorem dX1_fill_24 : decode cX1_fill 24 = .ok (.iload_n 3, 1) := by decide +kernel
theorem dX1_fill_25 : decode cX1_fill 25 = .ok (.i2b, 1) := by decide +kernel
theorem dX1_fill_26 : decode cX1_fill 26 = .ok (.invokestatic 21, 3) := by decide +kernel
theorem dX1_fill_29 : decode cX1_fill 29 = .ok (.return_, 1) := by decide +kernel
theorem dX6_sketch_0 : decode cX6_sketch 0 = .ok (.iconst 0, 1) := by decide +kernel
theorem dX6_sketch_1 : decode cX6_sketch 1 = .ok (.istore 4, 2) := by decide +kernel
theorem dX6_sketch_3 : decode cX6_sketch 3 = .ok (.iconst 0, 1) := by decide +kernel
theorem dX6_sketch_4 : decode cX6_sketch 4 = .ok (.istore 5, 2) := by decide +kernel
theorem dX6_sketch_6 : decode cX6_sketch 6 = .ok (.iconst 0, 1) := by decide +kernel
theorem dX6_sketch_7 : decode cX6_sketch 7 = .ok (.istore 6, 2) := by decide +kernel
theorem dX6_sketch_9 : decode cX6_sketch 9 = .ok (.iload 6, 2) := by decide +kernel
theorem dX6_sketch_11 : decode cX6_sketch 11 = .ok (.aload_n 0, 1) := by decide +kernel
theorem dX6_sketch_12 : decode cX6_sketch 12 = .ok (.getfield 9, 3) := by decide +kernel
theorem dX6_sketch_15 : decode cX6_sketch 15 = .ok (.invokevirtual 30, 3) := by decide +kernel
theorem dX6_sketch_18 : decode cX6_sketch 18 = .ok (.if_icmp .ge 55, 3) := by decide +kernel
theorem dX6_sketch_21 : decode cX6_sketch 21 = .ok (.iload 4, 2) := by decide +kernel
theorem dX6_sketch_23 : decode cX6_sketch 23 = .ok (.aload_n 0, 1) := by decide +kernel
theorem dX6_sketch_24 : decode cX6_sketch 24 = .ok (.getfield 15, 3) := by decide +kernel
theorem dX6_sketch_27 : decode cX6_sketch 27 = .ok (.iload 6, 2) := by decide +kernel
theorem dX6_sketch_29 : decode cX6_sketch 29 = .ok (.invokevirtual 50, 3) := by decide +kernel
theorem dX6_sketch_32 : decode cX6_sketch 32 = .ok (.iadd, 1) := by decide +kernel
theorem dX6_sketch_33 : decode cX6_sketch 33 = .ok (.istore 4, 2) := by decide +kernel
theorem dX6_sketch_35 : decode cX6_sketch 35 = .ok (.iload 5, 2) := by decide +kernel
theorem dX6_sketch_37 : decode cX6_sketch 37 = .ok (.aload_n 0, 1) := by decide +kernel
theorem dX6_sketch_38 : decode cX6_sketch 38 = .ok (.getfield 19, 3) := by decide +kernel
theorem dX6_sketch_41 : decode cX6_sketch 41 = .ok (.iload 6, 2) := by decide +kernel
theorem dX6_sketch_43 : decode cX6_sketch 43 = .ok (.invokevirtual 50, 3) := by decide +kernel
theorem dX6_sketch_46 : decode cX6_sketch 46 = .ok (.iadd, 1) := by decide +kernel
theorem dX6_sketch_47 : decode cX6_sketch 47 = .ok (.istore 5, 2) := by decide +kernel
theorem dX6_sketch_49 : decode cX6_sketch 49 = .ok (.aload_n 0, 1) := by decide +kernel
theorem dX6_sketch_50 : decode cX6_sketch 50 = .ok (.aload_n 1, 1) := by decide +kernel
theorem dX6_sketch_51 : decode cX6_sketch 51 = .ok (.iload_n 2, 1) := by decide +kernel
theorem dX6_sketch_52 : decode cX6_sketch 52 = .ok (.sipush 1024, 3) := by decide +kernel
theorem dX6_sketch_55 : decode cX6_sketch 55 = .ok (.iadd, 1) := by decide +kernel
theorem dX6_sketch_56 : decode cX6_sketch 56 = .ok (.bipush 32, 2) := by decide +kernel
theorem dX6_sketch_58 : decode cX6_sketch 58 = .ok (.iload 6, 2) := by decide +kernel
theorem dX6_sketch_60 : decode cX6_sketch 60 = .ok (.imul, 1) := by decide +kernel
theorem dX6_sketch_61 : decode cX6_sketch 61 = .ok (.iadd, 1) := by decide +kernel
theorem dX6_sketch_62 : decode cX6_sketch 62 = .ok (.iload 6, 2) := by decide +kernel
theorem dX6_sketch_64 : decode cX6_sketch 64 = .ok (.invokevirtual 56, 3) := by decide +kernel
theorem dX6_sketch_67 : decode cX6_sketch 67 = .ok (.iinc 6 1, 3) := by decide +kernel
theorem dX6_sketch_70 : decode cX6_sketch 70 = .ok (.goto (-61), 3) := by decide +kernel
theorem dX6_sketch_73 : decode cX6_sketch 73 = .ok (.aload_n 1, 1) := by decide +kernel
theorem dX6_sketch_74 : decode cX6_sketch 74 = .ok (.iload_n 2, 1) := by decide +kernel
theorem dX6_sketch_75 : decode cX6_sketch 75 = .ok (.aload_n 0, 1) := by decide +kernel
theorem dX6_sketch_76 : decode cX6_sketch 76 = .ok (.getfield 9, 3) := by decide +kernel
theorem dX6_sketch_79 : decode cX6_sketch 79 = .ok (.invokevirtual 59, 3) := by decide +kernel
theorem dX6_sketch_82 : decode cX6_sketch 82 = .ok (.invokevirtual 61, 3) := by decide +kernel
theorem dX6_sketch_85 : decode cX6_sketch 85 = .ok (.aload_n 1, 1) := by decide +kernel
theorem dX6_sketch_86 : decode cX6_sketch 86 = .ok (.iload_n 2, 1) := by decide +kernel
theorem dX6_sketch_87 : decode cX6_sketch 87 = .ok (.iconst 4, 1) := by decide +kernel
theorem dX6_sketch_88 : decode cX6_sketch 88 = .ok (.iadd, 1) := by decide +kernel
theorem dX6_sketch_89 : decode cX6_sketch 89 = .ok (.aload_n 0, 1) := by decide +kernel
theorem dX6_sketch_90 : decode cX6_sketch 90 = .ok (.getfield 9, 3) := by decide +kernel
theorem dX6_sketch_93 : decode cX6_sketch 93 = .ok (.invokevirtual 64, 3) := by decide +kernel
theorem dX6_sketch_96 : decode cX6_sketch 96 = .ok (.invokevirtual 61, 3) := by decide +kernel
theorem dX6_sketch_99 : decode cX6_sketch 99 = .ok (.aload_n 1, 1) := by decide +kernel
theorem dX6_sketch_100 : decode cX6_sketch 100 = .ok (.iload_n 2, 1) := by decide +kernel
theorem dX6_sketch_101 : decode cX6_sketch 101 = .ok (.bipush 12, 2) := by decide +kernel
theorem dX6_sketch_103 : decode cX6_sketch 103 = .ok (.iadd, 1) := by decide +kernel
theorem dX6_sketch_104 : decode cX6_sketch 104 = .ok (.iload 4, 2) := by decide +kernel
theorem dX6_sketch_106 : decode cX6_sketch 106 = .ok (.invokevirtual 61, 3) := by decide +kernel
theorem dX6_sketch_109 : decode cX6_sketch 109 = .ok (.aload_n 1, 1) := by decide +kernel
theorem dX6_sketch_110 : decode cX6_sketch 110 = .ok (.iload_n 2, 1) := by decide +kernel
theorem dX6_sketch_111 : decode cX6_sketch 111 = .ok (.bipush 16, 2) := by decide +kernel
theorem dX6_sketch_113 : decode cX6_sketch 113 = .ok (.iadd, 1) := by decide +kernel
theorem dX6_sketch_114 : decode cX6_sketch 114 = .ok (.iload 5, 2) := by decide +kernel
theorem dX6_sketch_116 : decode cX6_sketch 116 = .ok (.invokevirtual 61, 3) := by decide +kernel
theorem dX6_sketch_119 : decode cX6_sketch 119 = .ok (.aload_n 1, 1) := by decide +kernel
theorem dX6_sketch_120 : decode cX6_sketch 120 = .ok (.iload_n 2, 1) := by decide +kernel
theorem dX6_sketch_121 : decode cX6_sketch 121 = .ok (.bipush 20, 2) := by decide +kernel
theorem dX6_sketch_123 : decode cX6_sketch 123 = .ok (.iadd, 1) := by decide +kernel
theorem dX6_sketch_124 : decode cX6_sketch 124 = .ok (.iconst 1, 1) := by decide +kernel
theorem dX6_sketch_125 : decode cX6_sketch 125 = .ok (.invokevirtual 61, 3) := by decide +kernel
theorem dX6_sketch_128 : decode cX6_sketch 128 = .ok (.aload_n 1, 1) := by decide +kernel
theorem dX6_sketch_129 : decode cX6_sketch 129 = .ok (.iload_n 2, 1) := by decide +kernel
theorem dX6_sketch_130 : decode cX6_sketch 130 = .ok (.bipush 32, 2) := by decide +kernel
theorem dX6_sketch_132 : decode cX6_sketch 132 = .ok (.iadd, 1) := by decide +kernel
theorem dX6_sketch_133 : decode cX6_sketch 133 = .ok (.aload_n 0, 1) := by decide +kernel
theorem dX6_sketch_134 : decode cX6_sketch 134 = .ok (.getfield 9, 3) := by decide +kernel
theorem dX6_sketch_137 : decode cX6_sketch 137 = .ok (.invokevirtual 67, 3) := by decide +kernel
theorem dX6_sketch_140 : decode cX6_sketch 140 = .ok (.invokevirtual 61, 3) := by decide +kernel
theorem dX6_sketch_143 : decode cX6_sketch 143 = .ok (.aload_n 1, 1) := by decide +kernel
theorem dX6_sketch_144 : decode cX6_sketch 144 = .ok (.iload_n 2, 1) := by decide +kernel
theorem dX6_sketch_145 : decode cX6_sketch 145 = .ok (.bipush 36, 2) := by decide +kernel
theorem dX6_sketch_147 : decode cX6_sketch 147 = .ok (.iadd, 1) := by decide +kernel
theorem dX6_sketch_148 : decode cX6_sketch 148 = .ok (.aload_n 0, 1) := by decide +kernel
theorem dX6_sketch_149 : decode cX6_sketch 149 = .ok (.getfield 9, 3) := by decide +kernel
theorem dX6_sketch_152 : decode cX6_sketch 152 = .ok (.invokevirtual 67, 3) := by decide +kernel
theorem dX6_sketch_155 : decode cX6_sketch 155 = .ok (.invokevirtual 61, 3) := by decide +kernel
theorem dX6_sketch_158 : decode cX6_sketch 158 = .ok (.aload_n 1, 1) := by decide +kernel
theorem dX6_sketch_159 : decode cX6_sketch 159 = .ok (.iload_n 2, 1) := by decide +kernel
theorem dX6_sketch_160 : decode cX6_sketch 160 = .ok (.bipush 40, 2) := by decide +kernel
theorem dX6_sketch_162 : decode cX6_sketch 162 = .ok (.iadd, 1) := by decide +kernel
theorem dX6_sketch_163 : decode cX6_sketch 163 = .ok (.aload_n 0, 1) := by decide +kernel
theorem dX6_sketch_164 : decode cX6_sketch 164 = .ok (.getfield 9, 3) := by decide +kernel
theorem dX6_sketch_167 : decode cX6_sketch 167 = .ok (.invokevirtual 70, 3) := by decide +kernel
theorem dX6_sketch_170 : decode cX6_sketch 170 = .ok (.invokevirtual 61, 3) := by decide +kernel
theorem dX6_sketch_173 : decode cX6_sketch 173 = .ok (.aload_n 1, 1) := by decide +kernel
theorem dX6_sketch_174 : decode cX6_sketch 174 = .ok (.iload_n 2, 1) := by decide +kernel
theorem dX6_sketch_175 : decode cX6_sketch 175 = .ok (.bipush 54, 2) := by decide +kernel
theorem dX6_sketch_177 : decode cX6_sketch 177 = .ok (.iadd, 1) := by decide +kernel
theorem dX6_sketch_178 : decode cX6_sketch 178 = .ok (.ldc 73, 2) := by decide +kernel
theorem dX6_sketch_180 : decode cX6_sketch 180 = .ok (.invokevirtual 46, 3) := by decide +kernel
theorem dX6_sketch_183 : decode cX6_sketch 183 = .ok (.aload_n 1, 1) := by decide +kernel
theorem dX6_sketch_184 : decode cX6_sketch 184 = .ok (.iload_n 2, 1) := by decide +kernel
theorem dX6_sketch_185 : decode cX6_sketch 185 = .ok (.bipush 56, 2) := by decide +kernel
theorem dX6_sketch_187 : decode cX6_sketch 187 = .ok (.iadd, 1) := by decide +kernel
theorem dX6_sketch_188 : decode cX6_sketch 188 = .ok (.ldc 74, 2) := by decide +kernel
theorem dX6_sketch_190 : decode cX6_sketch 190 = .ok (.invokevirtual 46, 3) := by decide +kernel
theorem dX6_sketch_193 : decode cX6_sketch 193 = .ok (.aload_n 1, 1) := by decide +kernel
theorem dX6_sketch_194 : decode cX6_sketch 194 = .ok (.iload_n 2, 1) := by decide +kernel
theorem dX6_sketch_195 : decode cX6_sketch 195 = .ok (.bipush 58, 2) := by decide +kernel
theorem dX6_sketch_197 : decode cX6_sketch 197 = .ok (.iadd, 1) := by decide +kernel
theorem dX6_sketch_198 : decode cX6_sketch 198 = .ok (.iconst 1, 1) := by decide +kernel
theorem dX6_sketch_199 : decode cX6_sketch 199 = .ok (.invokevirtual 46, 3) := by decide +kernel
theorem dX6_sketch_202 : decode cX6_sketch 202 = .ok (.aload_n 1, 1) := by decide +kernel
theorem dX6_sketch_203 : decode cX6_sketch 203 = .ok (.iload_n 2, 1) := by decide +kernel
theorem dX6_sketch_204 : decode cX6_sketch 204 = .ok (.bipush 60, 2) := by decide +kernel
theorem dX6_sketch_206 : decode cX6_sketch 206 = .ok (.iadd, 1) := by decide +kernel
theorem dX6_sketch_207 : decode cX6_sketch 207 = .ok (.iconst 1, 1) := by decide +kernel
theorem dX6_sketch_208 : decode cX6_sketch 208 = .ok (.invokevirtual 46, 3) := by decide +kernel
theorem dX6_sketch_211 : decode cX6_sketch 211 = .ok (.aload_n 1, 1) := by decide +kernel
theorem dX6_sketch_212 : decode cX6_sketch 212 = .ok (.iload_n 2, 1) := by decide +kernel
theorem dX6_sketch_213 : decode cX6_sketch 213 = .ok (.bipush 76, 2) := by decide +kernel
theorem dX6_sketch_215 : decode cX6_sketch 215 = .ok (.iadd, 1) := by decide +kernel
theorem dX6_sketch_216 : decode cX6_sketch 216 = .ok (.iconst 1, 1) := by decide +kernel
theorem dX6_sketch_217 : decode cX6_sketch 217 = .ok (.invokevirtual 61, 3) := by decide +kernel
theorem dX6_sketch_220 : decode cX6_sketch 220 = .ok (.aload_n 1, 1) := by decide +kernel
theorem dX6_sketch_221 : decode cX6_sketch 221 = .ok (.iload_n 2, 1) := by decide +kernel
theorem dX6_sketch_222 : decode cX6_sketch 222 = .ok (.bipush 84, 2) := by decide +kernel
theorem dX6_sketch_224 : decode cX6_sketch 224 = .ok (.iadd, 1) := by decide +kernel
theorem dX6_sketch_225 : decode cX6_sketch 225 = .ok (.bipush 11, 2) := by decide +kernel
theorem dX6_sketch_227 : decode cX6_sketch 227 = .ok (.invokevirtual 61, 3) := by decide +kernel
theorem dX6_sketch_230 : decode cX6_sketch 230 = .ok (.aload_n 1, 1) := by decide +kernel
theorem dX6_sketch_231 : decode cX6_sketch 231 = .ok (.iload_n 2, 1) := by decide +kernel
theorem dX6_sketch_232 : decode cX6_sketch 232 = .ok (.bipush 88, 2) := by decide +kernel
theorem dX6_sketch_234 : decode cX6_sketch 234 = .ok (.iadd, 1) := by decide +kernel
theorem dX6_sketch_235 : decode cX6_sketch 235 = .ok (.sipush 128, 3) := by decide +kernel
theorem dX6_sketch_238 : decode cX6_sketch 238 = .ok (.invokevirtual 46, 3) := by decide +kernel
theorem dX6_sketch_241 : decode cX6_sketch 241 = .ok (.aload_n 1, 1) := by decide +kernel
theorem dX6_sketch_242 : decode cX6_sketch 242 = .ok (.iload_n 2, 1) := by decide +kernel
theorem dX6_sketch_243 : decode cX6_sketch 243 = .ok (.bipush 96, 2) := by decide +kernel
theorem dX6_sketch_245 : decode cX6_sketch 245 = .ok (.iadd, 1) := by decide +kernel
theorem dX6_sketch_246 : decode cX6_sketch 246 = .ok (.iconst 2, 1) := by decide +kernel
theorem dX6_sketch_247 : decode cX6_sketch 247 = .ok (.invokevirtual 61, 3) := by decide +kernel
theorem dX6_sketch_250 : decode cX6_sketch 250 = .ok (.aload_n 1, 1) := by decide +kernel
theorem dX6_sketch_251 : decode cX6_sketch 251 = .ok (.iload_n 2, 1) := by decide +kernel
theorem dX6_sketch_252 : decode cX6_sketch 252 = .ok (.bipush 104, 2) := by decide +kernel
theorem dX6_sketch_254 : decode cX6_sketch 254 = .ok (.iadd, 1) := by decide +kernel
theorem dX6_sketch_255 : decode cX6_sketch 255 = .ok (.iload_n 3, 1) := by decide +kernel
theorem dX6_sketch_256 : decode cX6_sketch 256 = .ok (.invokevirtual 61, 3) := by decide +kernel
theorem dX6_sketch_259 : decode cX6_sketch 259 = .ok (.return_, 1) := by decide +kernel
theorem dX3_freeIn_0 : decode cX3_freeIn 0 = .ok (.aload_n 0, 1) := by decide +kernel
theorem dX3_freeIn_1 : decode cX3_freeIn 1 = .ok (.getfield 15, 3) := by decide +kernel
theorem dX3_freeIn_4 : decode cX3_freeIn 4 = .ok (.iload_n 1, 1) := by decide +kernel
theorem dX3_freeIn_5 : decode cX3_freeIn 5 = .ok (.aload_n 0, 1) := by decide +kernel
theorem dX3_freeIn_6 : decode cX3_freeIn 6 = .ok (.getfield 19, 3) := by decide +kernel
theorem dX3_freeIn_9 : decode cX3_freeIn 9 = .ok (.invokevirtual 51, 3) := by decide +kernel
theorem dX3_freeIn_12 : decode cX3_freeIn 12 = .ok (.istore_n 2, 1) := by decide +kernel
theorem dX3_freeIn_13 : decode cX3_freeIn 13 = .ok (.iconst 0, 1) := by decide +kernel
theorem dX3_freeIn_14 : decode cX3_freeIn 14 = .ok (.istore_n 3, 1) := by decide +kernel
theorem dX3_freeIn_15 : decode cX3_freeIn 15 = .ok (.iconst 0, 1) := by decide +kernel
theorem dX3_freeIn_16 : decode cX3_freeIn 16 = .ok (.istore 4, 2) := by decide +kernel
theorem dX3_freeIn_18 : decode cX3_freeIn 18 = .ok (.iload 4, 2) := by decide +kernel
theorem dX3_freeIn_20 : decode cX3_freeIn 20 = .ok (.aload_n 0, 1) := by decide +kernel
theorem dX3_freeIn_21 : decode cX3_freeIn 21 = .ok (.getfield 42, 3) := by decide +kernel
theorem dX3_freeIn_24 : decode cX3_freeIn 24 = .ok (.bipush 8, 2) := by decide +kernel
theorem dX3_freeIn_26 : decode cX3_freeIn 26 = .ok (.idiv, 1) := by decide +kernel
theorem dX3_freeIn_27 : decode cX3_freeIn 27 = .ok (.if_icmp .ge 29, 3) := by decide +kernel
theorem dX3_freeIn_30 : decode cX3_freeIn 30 = .ok (.iload_n 3, 1) := by decide +kernel
theorem dX3_freeIn_31 : decode cX3_freeIn 31 = .ok (.bipush 8, 2) := by decide +kernel
theorem dX3_freeIn_33 : decode cX3_freeIn 33 = .ok (.aload_n 0, 1) := by decide +kernel
theorem dX3_freeIn_34 : decode cX3_freeIn 34 = .ok (.getfield 9, 3) := by decide +kernel
theorem dX3_freeIn_37 : decode cX3_freeIn 37 = .ok (.iload_n 2, 1) := by decide +kernel
theorem dX3_freeIn_38 : decode cX3_freeIn 38 = .ok (.iload 4, 2) := by decide +kernel
theorem dX3_freeIn_40 : decode cX3_freeIn 40 = .ok (.iadd, 1) := by decide +kernel
theorem dX3_freeIn_41 : decode cX3_freeIn 41 = .ok (.invokevirtual 64, 3) := by decide +kernel
theorem dX3_freeIn_44 : decode cX3_freeIn 44 = .ok (.invokestatic 74, 3) := by decide +kernel
theorem dX3_freeIn_47 : decode cX3_freeIn 47 = .ok (.isub, 1) := by decide +kernel
theorem dX3_freeIn_48 : decode cX3_freeIn 48 = .ok (.iadd, 1) := by decide +kernel
theorem dX3_freeIn_49 : decode cX3_freeIn 49 = .ok (.istore_n 3, 1) := by decide +kernel
theorem dX3_freeIn_50 : decode cX3_freeIn 50 = .ok (.iinc 4 1, 3) := by decide +kernel
theorem dX3_freeIn_53 : decode cX3_freeIn 53 = .ok (.goto (-35), 3) := by decide +kernel
theorem dX3_freeIn_56 : decode cX3_freeIn 56 = .ok (.iload_n 3, 1) := by decide +kernel
theorem dX3_freeIn_57 : decode cX3_freeIn 57 = .ok (.ireturn, 1) := by decide +kernel
theorem dX6_describe_0 : decode cX6_describe 0 = .ok (.aload_n 0, 1) := by decide +kernel
theorem dX6_describe_1 : decode cX6_describe 1 = .ok (.getfield 9, 3) := by decide +kernel
theorem dX6_describe_4 : decode cX6_describe 4 = .ok (.iload_n 3, 1) := by decide +kernel
theorem dX6_describe_5 : decode cX6_describe 5 = .ok (.invokevirtual 75, 3) := by decide +kernel
theorem dX6_describe_8 : decode cX6_describe 8 = .ok (.istore 4, 2) := by decide +kernel
theorem dX6_describe_10 : decode cX6_describe 10 = .ok (.aload_n 1, 1) := by decide +kernel
theorem dX6_describe_11 : decode cX6_describe 11 = .ok (.iload_n 2, 1) := by decide +kernel
theorem dX6_describe_12 : decode cX6_describe 12 = .ok (.iload 4, 2) := by decide +kernel
theorem dX6_describe_14 : decode cX6_describe 14 = .ok (.iconst 2, 1) := by decide +kernel
theorem dX6_describe_15 : decode cX6_describe 15 = .ok (.iadd, 1) := by decide +kernel
theorem dX6_describe_16 : decode cX6_describe 16 = .ok (.invokevirtual 61, 3) := by decide +kernel
theorem dX6_describe_19 : decode cX6_describe 19 = .ok (.aload_n 1, 1) := by decide +kernel
theorem dX6_describe_20 : decode cX6_describe 20 = .ok (.iload_n 2, 1) := by decide +kernel
theorem dX6_describe_21 : decode cX6_describe 21 = .ok (.iconst 4, 1) := by decide +kernel
theorem dX6_describe_22 : decode cX6_describe 22 = .ok (.iadd, 1) := by decide +kernel
theorem dX6_describe_23 : decode cX6_describe 23 = .ok (.iload 4, 2) := by decide +kernel
theorem dX6_describe_25 : decode cX6_describe 25 = .ok (.iconst 3, 1) := by decide +kernel
theorem dX6_describe_26 : decode cX6_describe 26 = .ok (.iadd, 1) := by decide +kernel
theorem dX6_describe_27 : decode cX6_describe 27 = .ok (.invokevirtual 61, 3) := by decide +kernel
theorem dX6_describe_30 : decode cX6_describe 30 = .ok (.aload_n 1, 1) := by decide +kernel
theorem dX6_describe_31 : decode cX6_describe 31 = .ok (.iload_n 2, 1) := by decide +kernel
theorem dX6_describe_32 : decode cX6_describe 32 = .ok (.bipush 8, 2) := by decide +kernel
theorem dX6_describe_34 : decode cX6_describe 34 = .ok (.iadd, 1) := by decide +kernel
theorem dX6_describe_35 : decode cX6_describe 35 = .ok (.iload 4, 2) := by decide +kernel
theorem dX6_describe_37 : decode cX6_describe 37 = .ok (.iconst 4, 1) := by decide +kernel
theorem dX6_describe_38 : decode cX6_describe 38 = .ok (.iadd, 1) := by decide +kernel
theorem dX6_describe_39 : decode cX6_describe 39 = .ok (.invokevirtual 61, 3) := by decide +kernel
theorem dX6_describe_42 : decode cX6_describe 42 = .ok (.aload_n 1, 1) := by decide +kernel
theorem dX6_describe_43 : decode cX6_describe 43 = .ok (.iload_n 2, 1) := by decide +kernel
theorem dX6_describe_44 : decode cX6_describe 44 = .ok (.bipush 12, 2) := by decide +kernel
theorem dX6_describe_46 : decode cX6_describe 46 = .ok (.iadd, 1) := by decide +kernel
theorem dX6_describe_47 : decode cX6_describe 47 = .ok (.aload_n 0, 1) := by decide +kernel
theorem dX6_describe_48 : decode cX6_describe 48 = .ok (.getfield 15, 3) := by decide +kernel
theorem dX6_describe_51 : decode cX6_describe 51 = .ok (.iload_n 3, 1) := by decide +kernel
theorem dX6_describe_52 : decode cX6_describe 52 = .ok (.invokevirtual 50, 3) := by decide +kernel
theorem dX6_describe_55 : decode cX6_describe 55 = .ok (.invokevirtual 46, 3) := by decide +kernel
theorem dX6_describe_58 : decode cX6_describe 58 = .ok (.aload_n 1, 1) := by decide +kernel
theorem dX6_describe_59 : decode cX6_describe 59 = .ok (.iload_n 2, 1) := by decide +kernel
theorem dX6_describe_60 : decode cX6_describe 60 = .ok (.bipush 14, 2) := by decide +kernel
theorem dX6_describe_62 : decode cX6_describe 62 = .ok (.iadd, 1) := by decide +kernel
theorem dX6_describe_63 : decode cX6_describe 63 = .ok (.aload_n 0, 1) := by decide +kernel
theorem dX6_describe_64 : decode cX6_describe 64 = .ok (.getfield 19, 3) := by decide +kernel
theorem dX6_describe_67 : decode cX6_describe 67 = .ok (.iload_n 3, 1) := by decide +kernel
theorem dX6_describe_68 : decode cX6_describe 68 = .ok (.invokevirtual 50, 3) := by decide +kernel
theorem dX6_describe_71 : decode cX6_describe 71 = .ok (.invokevirtual 46, 3) := by decide +kernel
theorem dX6_describe_74 : decode cX6_describe 74 = .ok (.aload_n 1, 1) := by decide +kernel
theorem dX6_describe_75 : decode cX6_describe 75 = .ok (.iload_n 2, 1) := by decide +kernel
theorem dX6_describe_76 : decode cX6_describe 76 = .ok (.bipush 16, 2) := by decide +kernel
theorem dX6_describe_78 : decode cX6_describe 78 = .ok (.iadd, 1) := by decide +kernel
theorem dX6_describe_79 : decode cX6_describe 79 = .ok (.aload_n 0, 1) := by decide +kernel
theorem dX6_describe_80 : decode cX6_describe 80 = .ok (.getfield 22, 3) := by decide +kernel
theorem dX6_describe_83 : decode cX6_describe 83 = .ok (.iload_n 3, 1) := by decide +kernel
theorem dX6_describe_84 : decode cX6_describe 84 = .ok (.invokevirtual 78, 3) := by decide +kernel
theorem dX6_describe_87 : decode cX6_describe 87 = .ok (.invokevirtual 46, 3) := by decide +kernel
theorem dX6_describe_90 : decode cX6_describe 90 = .ok (.return_, 1) := by decide +kernel
theorem dX1_put4_0 : decode cX1_put4 0 = .ok (.iload_n 1, 1) := by decide +kernel
theorem dX1_put4_1 : decode cX1_put4 1 = .ok (.ifCond .lt 61, 3) := by decide +kernel
theorem dX1_put4_4 : decode cX1_put4 4 = .ok (.iload_n 1, 1) := by decide +kernel
theorem dX1_put4_5 : decode cX1_put4 5 = .ok (.aload_n 0, 1) := by decide +kernel
theorem dX1_put4_6 : decode cX1_put4 6 = .ok (.getfield 15, 3) := by decide +kernel
theorem dX1_put4_9 : decode cX1_put4 9 = .ok (.arraylength, 1) := by decide +kernel
theorem dX1_put4_10 : decode cX1_put4 10 = .ok (.iconst 4, 1) := by decide +kernel
theorem dX1_put4_11 : decode cX1_put4 11 = .ok (.isub, 1) := by decide +kernel
theorem dX1_put4_12 : decode cX1_put4 12 = .ok (.if_icmp .gt 50, 3) := by decide +kernel
theorem dX1_put4_15 : decode cX1_put4 15 = .ok (.aload_n 0, 1) := by decide +kernel
theorem dX1_put4_16 : decode cX1_put4 16 = .ok (.getfield 15, 3) := by decide +kernel
theorem dX1_put4_19 : decode cX1_put4 19 = .ok (.iload_n 1, 1) := by decide +kernel
theorem dX1_put4_20 : decode cX1_put4 20 = .ok (.iload_n 2, 1) := by decide +kernel
theorem dX1_put4_21 : decode cX1_put4 21 = .ok (.i2b, 1) := by decide +kernel
theorem dX1_put4_22 : decode cX1_put4 22 = .ok (.bastore, 1) := by decide +kernel
theorem dX1_put4_23 : decode cX1_put4 23 = .ok (.aload_n 0, 1) := by decide +kernel
theorem dX1_put4_24 : decode cX1_put4 24 = .ok (.getfield 15, 3) := by decide +kernel
theorem dX1_put4_27 : decode cX1_put4 27 = .ok (.iload_n 1, 1) := by decide +kernel
theorem dX1_put4_28 : decode cX1_put4 28 = .ok (.iconst 1, 1) := by decide +kernel
theorem dX1_put4_29 : decode cX1_put4 29 = .ok (.iadd, 1) := by decide +kernel
theorem dX1_put4_30 : decode cX1_put4 30 = .ok (.iload_n 2, 1) := by decide +kernel
theorem dX1_put4_31 : decode cX1_put4 31 = .ok (.bipush 8, 2) := by decide +kernel
theorem dX1_put4_33 : decode cX1_put4 33 = .ok (.ishr, 1) := by decide +kernel
theorem dX1_put4_34 : decode cX1_put4 34 = .ok (.i2b, 1) := by decide +kernel
theorem dX1_put4_35 : decode cX1_put4 35 = .ok (.bastore, 1) := by decide +kernel
theorem dX1_put4_36 : decode cX1_put4 36 = .ok (.aload_n 0, 1) := by decide +kernel
theorem dX1_put4_37 : decode cX1_put4 37 = .ok (.getfield 15, 3) := by decide +kernel
theorem dX1_put4_40 : decode cX1_put4 40 = .ok (.iload_n 1, 1) := by decide +kernel
theorem dX1_put4_41 : decode cX1_put4 41 = .ok (.iconst 2, 1) := by decide +kernel
theorem dX1_put4_42 : decode cX1_put4 42 = .ok (.iadd, 1) := by decide +kernel
theorem dX1_put4_43 : decode cX1_put4 43 = .ok (.iload_n 2, 1) := by decide +kernel
theorem dX1_put4_44 : decode cX1_put4 44 = .ok (.bipush 16, 2) := by decide +kernel
theorem dX1_put4_46 : decode cX1_put4 46 = .ok (.ishr, 1) := by decide +kernel
theorem dX1_put4_47 : decode cX1_put4 47 = .ok (.i2b, 1) := by decide +kernel
theorem dX1_put4_48 : decode cX1_put4 48 = .ok (.bastore, 1) := by decide +kernel
theorem dX1_put4_49 : decode cX1_put4 49 = .ok (.aload_n 0, 1) := by decide +kernel
theorem dX1_put4_50 : decode cX1_put4 50 = .ok (.getfield 15, 3) := by decide +kernel
theorem dX1_put4_53 : decode cX1_put4 53 = .ok (.iload_n 1, 1) := by decide +kernel
theorem dX1_put4_54 : decode cX1_put4 54 = .ok (.iconst 3, 1) := by decide +kernel
theorem dX1_put4_55 : decode cX1_put4 55 = .ok (.iadd, 1) := by decide +kernel
theorem dX1_put4_56 : decode cX1_put4 56 = .ok (.iload_n 2, 1) := by decide +kernel
theorem dX1_put4_57 : decode cX1_put4 57 = .ok (.bipush 24, 2) := by decide +kernel
theorem dX1_put4_59 : decode cX1_put4 59 = .ok (.ishr, 1) := by decide +kernel
theorem dX1_put4_60 : decode cX1_put4 60 = .ok (.i2b, 1) := by decide +kernel
theorem dX1_put4_61 : decode cX1_put4 61 = .ok (.bastore, 1) := by decide +kernel
theorem dX1_put4_62 : decode cX1_put4 62 = .ok (.return_, 1) := by decide +kernel
theorem dX1_put2_0 : decode cX1_put2 0 = .ok (.iload_n 1, 1) := by decide +kernel
theorem dX1_put2_1 : decode cX1_put2 1 = .ok (.ifCond .lt 35, 3) := by decide +kernel
theorem dX1_put2_4 : decode cX1_put2 4 = .ok (.iload_n 1, 1) := by decide +kernel
theorem dX1_put2_5 : decode cX1_put2 5 = .ok (.aload_n 0, 1) := by decide +kernel
theorem dX1_put2_6 : decode cX1_put2 6 = .ok (.getfield 15, 3) := by decide +kernel
theorem dX1_put2_9 : decode cX1_put2 9 = .ok (.arraylength, 1) := by decide +kernel
theorem dX1_put2_10 : decode cX1_put2 10 = .ok (.iconst 2, 1) := by decide +kernel
theorem dX1_put2_11 : decode cX1_put2 11 = .ok (.isub, 1) := by decide +kernel
theorem dX1_put2_12 : decode cX1_put2 12 = .ok (.if_icmp .gt 24, 3) := by decide +kernel
theorem dX1_put2_15 : decode cX1_put2 15 = .ok (.aload_n 0, 1) := by decide +kernel
theorem dX1_put2_16 : decode cX1_put2 16 = .ok (.getfield 15, 3) := by decide +kernel
theorem dX1_put2_19 : decode cX1_put2 19 = .ok (.iload_n 1, 1) := by decide +kernel
theorem dX1_put2_20 : decode cX1_put2 20 = .ok (.iload_n 2, 1) := by decide +kernel
theorem dX1_put2_21 : decode cX1_put2 21 = .ok (.i2b, 1) := by decide +kernel
theorem dX1_put2_22 : decode cX1_put2 22 = .ok (.bastore, 1) := by decide +kernel
theorem dX1_put2_23 : decode cX1_put2 23 = .ok (.aload_n 0, 1) := by decide +kernel
theorem dX1_put2_24 : decode cX1_put2 24 = .ok (.getfield 15, 3) := by decide +kernel
theorem dX1_put2_27 : decode cX1_put2 27 = .ok (.iload_n 1, 1) := by decide +kernel
theorem dX1_put2_28 : decode cX1_put2 28 = .ok (.iconst 1, 1) := by decide +kernel
theorem dX1_put2_29 : decode cX1_put2 29 = .ok (.iadd, 1) := by decide +kernel
theorem dX1_put2_30 : decode cX1_put2 30 = .ok (.iload_n 2, 1) := by decide +kernel
theorem dX1_put2_31 : decode cX1_put2 31 = .ok (.bipush 8, 2) := by decide +kernel
theorem dX1_put2_33 : decode cX1_put2 33 = .ok (.ishr, 1) := by decide +kernel
theorem dX1_put2_34 : decode cX1_put2 34 = .ok (.i2b, 1) := by decide +kernel
theorem dX1_put2_35 : decode cX1_put2 35 = .ok (.bastore, 1) := by decide +kernel
theorem dX1_put2_36 : decode cX1_put2 36 = .ok (.return_, 1) := by decide +kernel
theorem dX4_directoriesIn_0 : decode cX4_directoriesIn 0 = .ok (.iconst 0, 1) := by decide +kernel
theorem dX4_directoriesIn_1 : decode cX4_directoriesIn 1 = .ok (.istore_n 2, 1) := by decide +kernel
theorem dX4_directoriesIn_2 : decode cX4_directoriesIn 2 = .ok (.aload_n 0, 1) := by decide +kernel
theorem dX4_directoriesIn_3 : decode cX4_directoriesIn 3 = .ok (.getfield 15, 3) := by decide +kernel
theorem dX4_directoriesIn_6 : decode cX4_directoriesIn 6 = .ok (.iload_n 1, 1) := by decide +kernel
theorem dX4_directoriesIn_7 : decode cX4_directoriesIn 7 = .ok (.iconst 4, 1) := by decide +kernel
theorem dX4_directoriesIn_8 : decode cX4_directoriesIn 8 = .ok (.invokevirtual 46, 3) := by decide +kernel
theorem dX4_directoriesIn_11 : decode cX4_directoriesIn 11 = .ok (.istore_n 3, 1) := by decide +kernel
theorem dX4_directoriesIn_12 : decode cX4_directoriesIn 12 = .ok (.iconst 0, 1) := by decide +kernel
theorem dX4_directoriesIn_13 : decode cX4_directoriesIn 13 = .ok (.istore 4, 2) := by decide +kernel
theorem dX4_directoriesIn_15 : decode cX4_directoriesIn 15 = .ok (.iload 4, 2) := by decide +kernel
theorem dX4_directoriesIn_17 : decode cX4_directoriesIn 17 = .ok (.aload_n 0, 1) := by decide +kernel
theorem dX4_directoriesIn_18 : decode cX4_directoriesIn 18 = .ok (.getfield 15, 3) := by decide +kernel
theorem dX4_directoriesIn_21 : decode cX4_directoriesIn 21 = .ok (.invokevirtual 50, 3) := by decide +kernel
theorem dX4_directoriesIn_24 : decode cX4_directoriesIn 24 = .ok (.if_icmp .ge 33, 3) := by decide +kernel
theorem dX4_directoriesIn_27 : decode cX4_directoriesIn 27 = .ok (.aload_n 0, 1) := by decide +kernel
theorem dX4_directoriesIn_28 : decode cX4_directoriesIn 28 = .ok (.getfield 9, 3) := by decide +kernel
theorem dX4_directoriesIn_31 : decode cX4_directoriesIn 31 = .ok (.iload_n 3, 1) := by decide +kernel
theorem dX4_directoriesIn_32 : decode cX4_directoriesIn 32 = .ok (.iload 4, 2) := by decide +kernel
theorem dX4_directoriesIn_34 : decode cX4_directoriesIn 34 = .ok (.sipush 128, 3) := by decide +kernel
theorem dX4_directoriesIn_37 : decode cX4_directoriesIn 37 = .ok (.imul, 1) := by decide +kernel
theorem dX4_directoriesIn_38 : decode cX4_directoriesIn 38 = .ok (.iadd, 1) := by decide +kernel
theorem dX4_directoriesIn_39 : decode cX4_directoriesIn 39 = .ok (.invokevirtual 29, 3) := by decide +kernel
theorem dX4_directoriesIn_42 : decode cX4_directoriesIn 42 = .ok (.sipush 16877, 3) := by decide +kernel
theorem dX4_directoriesIn_45 : decode cX4_directoriesIn 45 = .ok (.if_icmp .ne 6, 3) := by decide +kernel
theorem dX4_directoriesIn_48 : decode cX4_directoriesIn 48 = .ok (.iinc 2 1, 3) := by decide +kernel
theorem dX4_directoriesIn_51 : decode cX4_directoriesIn 51 = .ok (.iinc 4 1, 3) := by decide +kernel
theorem dX4_directoriesIn_54 : decode cX4_directoriesIn 54 = .ok (.goto (-39), 3) := by decide +kernel
theorem dX4_directoriesIn_57 : decode cX4_directoriesIn 57 = .ok (.iload_n 2, 1) := by decide +kernel
theorem dX4_directoriesIn_58 : decode cX4_directoriesIn 58 = .ok (.ireturn, 1) := by decide +kernel
theorem dX2_groupBlocks_0 : decode cX2_groupBlocks 0 = .ok (.aload_n 0, 1) := by decide +kernel
theorem dX2_groupBlocks_1 : decode cX2_groupBlocks 1 = .ok (.getfield 15, 3) := by decide +kernel
theorem dX2_groupBlocks_4 : decode cX2_groupBlocks 4 = .ok (.ireturn, 1) := by decide +kernel
theorem dX0_many_0 : decode cX0_many 0 = .ok (.aload_n 0, 1) := by decide +kernel
theorem dX0_many_1 : decode cX0_many 1 = .ok (.getfield 142, 3) := by decide +kernel
theorem dX0_many_4 : decode cX0_many 4 = .ok (.ifCond .ne 5, 3) := by decide +kernel
theorem dX0_many_7 : decode cX0_many 7 = .ok (.iconst (-1), 1) := by decide +kernel
theorem dX0_many_8 : decode cX0_many 8 = .ok (.ireturn, 1) := by decide +kernel
theorem dX0_many_9 : decode cX0_many 9 = .ok (.iload_n 1, 1) := by decide +kernel
theorem dX0_many_10 : decode cX0_many 10 = .ok (.tableswitch 62 0 3 #[30, 38, 46, 54], 30) := by decide +kernel
theorem dX0_many_40 : decode cX0_many 40 = .ok (.aload_n 0, 1) := by decide +kernel
theorem dX0_many_41 : decode cX0_many 41 = .ok (.getfield 39, 3) := by decide +kernel
theorem dX0_many_44 : decode cX0_many 44 = .ok (.invokevirtual 146, 3) := by decide +kernel
theorem dX0_many_47 : decode cX0_many 47 = .ok (.ireturn, 1) := by decide +kernel
theorem dX0_many_48 : decode cX0_many 48 = .ok (.aload_n 0, 1) := by decide +kernel
theorem dX0_many_49 : decode cX0_many 49 = .ok (.getfield 43, 3) := by decide +kernel
theorem dX0_many_52 : decode cX0_many 52 = .ok (.invokevirtual 146, 3) := by decide +kernel
theorem dX0_many_55 : decode cX0_many 55 = .ok (.ireturn, 1) := by decide +kernel
theorem dX0_many_56 : decode cX0_many 56 = .ok (.aload_n 0, 1) := by decide +kernel
theorem dX0_many_57 : decode cX0_many 57 = .ok (.getfield 30, 3) := by decide +kernel
theorem dX0_many_60 : decode cX0_many 60 = .ok (.invokevirtual 159, 3) := by decide +kernel
theorem dX0_many_63 : decode cX0_many 63 = .ok (.ireturn, 1) := by decide +kernel
theorem dX0_many_64 : decode cX0_many 64 = .ok (.aload_n 0, 1) := by decide +kernel
theorem dX0_many_65 : decode cX0_many 65 = .ok (.getfield 30, 3) := by decide +kernel
theorem dX0_many_68 : decode cX0_many 68 = .ok (.invokevirtual 162, 3) := by decide +kernel
theorem dX0_many_71 : decode cX0_many 71 = .ok (.ireturn, 1) := by decide +kernel
theorem dX0_many_72 : decode cX0_many 72 = .ok (.iconst (-1), 1) := by decide +kernel
theorem dX0_many_73 : decode cX0_many 73 = .ok (.ireturn, 1) := by decide +kernel
theorem dX3_free_0 : decode cX3_free 0 = .ok (.aload_n 0, 1) := by decide +kernel
theorem dX3_free_1 : decode cX3_free 1 = .ok (.getfield 9, 3) := by decide +kernel
theorem dX3_free_4 : decode cX3_free 4 = .ok (.sipush 1024, 3) := by decide +kernel
theorem dX3_free_7 : decode cX3_free 7 = .ok (.aload_n 0, 1) := by decide +kernel
theorem dX3_free_8 : decode cX3_free 8 = .ok (.getfield 23, 3) := by decide +kernel
theorem dX3_free_11 : decode cX3_free 11 = .ok (.iadd, 1) := by decide +kernel
theorem dX3_free_12 : decode cX3_free 12 = .ok (.invokevirtual 71, 3) := by decide +kernel
theorem dX3_free_15 : decode cX3_free 15 = .ok (.ireturn, 1) := by decide +kernel
theorem dX10_cell_0 : decode cX10_cell 0 = .ok (.iload_n 1, 1) := by decide +kernel
theorem dX10_cell_1 : decode cX10_cell 1 = .ok (.aload_n 0, 1) := by decide +kernel
theorem dX10_cell_2 : decode cX10_cell 2 = .ok (.arraylength, 1) := by decide +kernel
theorem dX10_cell_3 : decode cX10_cell 3 = .ok (.if_icmp .ge 9, 3) := by decide +kernel
theorem dX10_cell_6 : decode cX10_cell 6 = .ok (.aload_n 0, 1) := by decide +kernel
theorem dX10_cell_7 : decode cX10_cell 7 = .ok (.iload_n 1, 1) := by decide +kernel
theorem dX10_cell_8 : decode cX10_cell 8 = .ok (.iaload, 1) := by decide +kernel
theorem dX10_cell_9 : decode cX10_cell 9 = .ok (.goto 4, 3) := by decide +kernel
theorem dX10_cell_12 : decode cX10_cell 12 = .ok (.iconst 0, 1) := by decide +kernel
theorem dX10_cell_13 : decode cX10_cell 13 = .ok (.ireturn, 1) := by decide +kernel
theorem dX10_format_0 : decode cX10_format 0 = .ok (.aload 4, 2) := by decide +kernel
theorem dX10_format_2 : decode cX10_format 2 = .ok (.iconst 0, 1) := by decide +kernel
theorem dX10_format_3 : decode cX10_format 3 = .ok (.aload_n 0, 1) := by decide +kernel
theorem dX10_format_4 : decode cX10_format 4 = .ok (.iload_n 1, 1) := by decide +kernel
theorem dX10_format_5 : decode cX10_format 5 = .ok (.iload_n 2, 1) := by decide +kernel
theorem dX10_format_6 : decode cX10_format 6 = .ok (.iload_n 3, 1) := by decide +kernel
theorem dX10_format_7 : decode cX10_format 7 = .ok (.invokevirtual 7, 3) := by decide +kernel
theorem dX10_format_10 : decode cX10_format 10 = .ok (.i2l, 1) := by decide +kernel
theorem dX10_format_11 : decode cX10_format 11 = .ok (.lastore, 1) := by decide +kernel
theorem dX10_format_12 : decode cX10_format 12 = .ok (.goto 7, 3) := by decide +kernel
theorem dX10_format_15 : decode cX10_format 15 = .ok (.astore 5, 2) := by decide +kernel
theorem dX10_format_17 : decode cX10_format 17 = .ok (.iconst 1, 1) := by decide +kernel
theorem dX10_format_18 : decode cX10_format 18 = .ok (.ireturn, 1) := by decide +kernel
theorem dX10_format_19 : decode cX10_format 19 = .ok (.iconst 0, 1) := by decide +kernel
theorem dX10_format_20 : decode cX10_format 20 = .ok (.ireturn, 1) := by decide +kernel
theorem dX0_format_0 : decode cX0_format 0 = .ok (.aload_n 0, 1) := by decide +kernel
theorem dX0_format_1 : decode cX0_format 1 = .ok (.getfield 30, 3) := by decide +kernel
theorem dX0_format_4 : decode cX0_format 4 = .ok (.iload_n 1, 1) := by decide +kernel
theorem dX0_format_5 : decode cX0_format 5 = .ok (.iload_n 2, 1) := by decide +kernel
theorem dX0_format_6 : decode cX0_format 6 = .ok (.invokevirtual 101, 3) := by decide +kernel
theorem dX0_format_9 : decode cX0_format 9 = .ok (.ifCond .ne 13, 3) := by decide +kernel
theorem dX0_format_12 : decode cX0_format 12 = .ok (.new 105, 3) := by decide +kernel
theorem dX0_format_15 : decode cX0_format 15 = .ok (.dup, 1) := by decide +kernel
theorem dX0_format_16 : decode cX0_format 16 = .ok (.ldc 107, 2) := by decide +kernel
theorem dX0_format_18 : decode cX0_format 18 = .ok (.invokespecial 109, 3) := by decide +kernel
theorem dX0_format_21 : decode cX0_format 21 = .ok (.athrow, 1) := by decide +kernel
theorem dX0_format_22 : decode cX0_format 22 = .ok (.aload_n 0, 1) := by decide +kernel
theorem dX0_format_23 : decode cX0_format 23 = .ok (.getfield 23, 3) := by decide +kernel
theorem dX0_format_26 : decode cX0_format 26 = .ok (.iconst 0, 1) := by decide +kernel
theorem dX0_format_27 : decode cX0_format 27 = .ok (.aload_n 0, 1) := by decide +kernel
theorem dX0_format_28 : decode cX0_format 28 = .ok (.getfield 23, 3) := by decide +kernel
theorem dX0_format_31 : decode cX0_format 31 = .ok (.invokevirtual 112, 3) := by decide +kernel
theorem dX0_format_34 : decode cX0_format 34 = .ok (.iconst 0, 1) := by decide +kernel
theorem dX0_format_35 : decode cX0_format 35 = .ok (.invokevirtual 116, 3) := by decide +kernel
theorem dX0_format_38 : decode cX0_format 38 = .ok (.aload_n 0, 1) := by decide +kernel
theorem dX0_format_39 : decode cX0_format 39 = .ok (.getfield 39, 3) := by decide +kernel
theorem dX0_format_42 : decode cX0_format 42 = .ok (.invokevirtual 120, 3) := by decide +kernel
theorem dX0_format_45 : decode cX0_format 45 = .ok (.aload_n 0, 1) := by decide +kernel
theorem dX0_format_46 : decode cX0_format 46 = .ok (.getfield 43, 3) := by decide +kernel
theorem dX0_format_49 : decode cX0_format 49 = .ok (.invokevirtual 120, 3) := by decide +kernel
theorem dX0_format_52 : decode cX0_format 52 = .ok (.aload_n 0, 1) := by decide +kernel
theorem dX0_format_53 : decode cX0_format 53 = .ok (.getfield 69, 3) := by decide +kernel
theorem dX0_format_56 : decode cX0_format 56 = .ok (.aload_n 0, 1) := by decide +kernel
