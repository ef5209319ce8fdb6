theorem dX12_keep_224 : decode cX12_keep 224 = .ok (.getfield 52, 3) := by decide +kernel
theorem dX12_keep_227 : decode cX12_keep 227 = .ok (.iload_n 1, 1) := by decide +kernel
theorem dX12_keep_228 : decode cX12_keep 228 = .ok (.iaload, 1) := by decide +kernel
theorem dX12_keep_229 : decode cX12_keep 229 = .ok (.ifCond .eq 22, 3) := by decide +kernel
theorem dX12_keep_232 : decode cX12_keep 232 = .ok (.aload_n 0, 1) := by decide +kernel
theorem dX12_keep_233 : decode cX12_keep 233 = .ok (.getfield 23, 3) := by decide +kernel
theorem dX12_keep_236 : decode cX12_keep 236 = .ok (.aload_n 0, 1) := by decide +kernel
theorem dX12_keep_237 : decode cX12_keep 237 = .ok (.getfield 52, 3) := by decide +kernel
theorem dX12_keep_240 : decode cX12_keep 240 = .ok (.iload_n 1, 1) := by decide +kernel
theorem dX12_keep_241 : decode cX12_keep 241 = .ok (.iaload, 1) := by decide +kernel
theorem dX12_keep_242 : decode cX12_keep 242 = .ok (.iconst 0, 1) := by decide +kernel
theorem dX12_keep_243 : decode cX12_keep 243 = .ok (.bastore, 1) := by decide +kernel
theorem dX12_keep_244 : decode cX12_keep 244 = .ok (.aload_n 0, 1) := by decide +kernel
theorem dX12_keep_245 : decode cX12_keep 245 = .ok (.getfield 52, 3) := by decide +kernel
theorem dX12_keep_248 : decode cX12_keep 248 = .ok (.iload_n 1, 1) := by decide +kernel
theorem dX12_keep_249 : decode cX12_keep 249 = .ok (.iconst 0, 1) := by decide +kernel
theorem dX12_keep_250 : decode cX12_keep 250 = .ok (.iastore, 1) := by decide +kernel
theorem dX12_keep_251 : decode cX12_keep 251 = .ok (.aload_n 0, 1) := by decide +kernel
theorem dX12_keep_252 : decode cX12_keep 252 = .ok (.getfield 43, 3) := by decide +kernel
theorem dX12_keep_255 : decode cX12_keep 255 = .ok (.iload_n 1, 1) := by decide +kernel
theorem dX12_keep_256 : decode cX12_keep 256 = .ok (.iload_n 2, 1) := by decide +kernel
theorem dX12_keep_257 : decode cX12_keep 257 = .ok (.ifCond .ne 7, 3) := by decide +kernel
theorem dX12_keep_260 : decode cX12_keep 260 = .ok (.iconst 0, 1) := by decide +kernel
theorem dX12_keep_261 : decode cX12_keep 261 = .ok (.goto 9, 3) := by decide +kernel
theorem dX12_keep_264 : decode cX12_keep 264 = .ok (.aload_n 0, 1) := by decide +kernel
theorem dX12_keep_265 : decode cX12_keep 265 = .ok (.getfield 43, 3) := by decide +kernel
theorem dX12_keep_268 : decode cX12_keep 268 = .ok (.iload_n 1, 1) := by decide +kernel
theorem dX12_keep_269 : decode cX12_keep 269 = .ok (.iaload, 1) := by decide +kernel
theorem dX12_keep_270 : decode cX12_keep 270 = .ok (.iastore, 1) := by decide +kernel
theorem dX12_keep_271 : decode cX12_keep 271 = .ok (.iload_n 2, 1) := by decide +kernel
theorem dX12_keep_272 : decode cX12_keep 272 = .ok (.ifCond .le 15, 3) := by decide +kernel
theorem dX12_keep_275 : decode cX12_keep 275 = .ok (.aload_n 0, 1) := by decide +kernel
theorem dX12_keep_276 : decode cX12_keep 276 = .ok (.getfield 27, 3) := by decide +kernel
theorem dX12_keep_279 : decode cX12_keep 279 = .ok (.aload_n 0, 1) := by decide +kernel
theorem dX12_keep_280 : decode cX12_keep 280 = .ok (.getfield 46, 3) := by decide +kernel
theorem dX12_keep_283 : decode cX12_keep 283 = .ok (.iload_n 1, 1) := by decide +kernel
theorem dX12_keep_284 : decode cX12_keep 284 = .ok (.iaload, 1) := by decide +kernel
theorem dX12_keep_285 : decode cX12_keep 285 = .ok (.iconst 0, 1) := by decide +kernel
theorem dX12_keep_286 : decode cX12_keep 286 = .ok (.iastore, 1) := by decide +kernel
theorem dX12_keep_287 : decode cX12_keep 287 = .ok (.aload_n 0, 1) := by decide +kernel
theorem dX12_keep_288 : decode cX12_keep 288 = .ok (.getfield 40, 3) := by decide +kernel
theorem dX12_keep_291 : decode cX12_keep 291 = .ok (.iload_n 1, 1) := by decide +kernel
theorem dX12_keep_292 : decode cX12_keep 292 = .ok (.iload_n 2, 1) := by decide +kernel
theorem dX12_keep_293 : decode cX12_keep 293 = .ok (.iastore, 1) := by decide +kernel
theorem dX12_keep_294 : decode cX12_keep 294 = .ok (.return_, 1) := by decide +kernel
theorem dX12_remove_0 : decode cX12_remove 0 = .ok (.aload_n 0, 1) := by decide +kernel
theorem dX12_remove_1 : decode cX12_remove 1 = .ok (.iload_n 1, 1) := by decide +kernel
theorem dX12_remove_2 : decode cX12_remove 2 = .ok (.invokevirtual 216, 3) := by decide +kernel
theorem dX12_remove_5 : decode cX12_remove 5 = .ok (.ifCond .eq 4, 3) := by decide +kernel
theorem dX12_remove_8 : decode cX12_remove 8 = .ok (.return_, 1) := by decide +kernel
theorem dX12_remove_9 : decode cX12_remove 9 = .ok (.aload_n 0, 1) := by decide +kernel
theorem dX12_remove_10 : decode cX12_remove 10 = .ok (.getfield 198, 3) := by decide +kernel
theorem dX12_remove_13 : decode cX12_remove 13 = .ok (.istore_n 2, 1) := by decide +kernel
theorem dX12_remove_14 : decode cX12_remove 14 = .ok (.aload_n 0, 1) := by decide +kernel
theorem dX12_remove_15 : decode cX12_remove 15 = .ok (.getfield 195, 3) := by decide +kernel
theorem dX12_remove_18 : decode cX12_remove 18 = .ok (.istore_n 3, 1) := by decide +kernel
theorem dX12_remove_19 : decode cX12_remove 19 = .ok (.aload_n 0, 1) := by decide +kernel
theorem dX12_remove_20 : decode cX12_remove 20 = .ok (.iload_n 2, 1) := by decide +kernel
theorem dX12_remove_21 : decode cX12_remove 21 = .ok (.invokevirtual 189, 3) := by decide +kernel
theorem dX12_remove_24 : decode cX12_remove 24 = .ok (.istore 4, 2) := by decide +kernel
theorem dX12_remove_26 : decode cX12_remove 26 = .ok (.aload_n 0, 1) := by decide +kernel
theorem dX12_remove_27 : decode cX12_remove 27 = .ok (.aload_n 0, 1) := by decide +kernel
theorem dX12_remove_28 : decode cX12_remove 28 = .ok (.getfield 31, 3) := by decide +kernel
theorem dX12_remove_31 : decode cX12_remove 31 = .ok (.iload 4, 2) := by decide +kernel
theorem dX12_remove_33 : decode cX12_remove 33 = .ok (.iaload, 1) := by decide +kernel
theorem dX12_remove_34 : decode cX12_remove 34 = .ok (.iconst 2, 1) := by decide +kernel
theorem dX12_remove_35 : decode cX12_remove 35 = .ok (.if_icmp .ne 16, 3) := by decide +kernel
theorem dX12_remove_38 : decode cX12_remove 38 = .ok (.aload_n 0, 1) := by decide +kernel
theorem dX12_remove_39 : decode cX12_remove 39 = .ok (.iload 4, 2) := by decide +kernel
theorem dX12_remove_41 : decode cX12_remove 41 = .ok (.invokevirtual 213, 3) := by decide +kernel
theorem dX12_remove_44 : decode cX12_remove 44 = .ok (.ifCond .le 7, 3) := by decide +kernel
theorem dX12_remove_47 : decode cX12_remove 47 = .ok (.iconst 1, 1) := by decide +kernel
theorem dX12_remove_48 : decode cX12_remove 48 = .ok (.goto 4, 3) := by decide +kernel
theorem dX12_remove_51 : decode cX12_remove 51 = .ok (.iconst 0, 1) := by decide +kernel
theorem dX12_remove_52 : decode cX12_remove 52 = .ok (.iconst 3, 1) := by decide +kernel
theorem dX12_remove_53 : decode cX12_remove 53 = .ok (.invokevirtual 205, 3) := by decide +kernel
theorem dX12_remove_56 : decode cX12_remove 56 = .ok (.ifCond .eq 4, 3) := by decide +kernel
theorem dX12_remove_59 : decode cX12_remove 59 = .ok (.return_, 1) := by decide +kernel
theorem dX12_remove_60 : decode cX12_remove 60 = .ok (.aload_n 0, 1) := by decide +kernel
theorem dX12_remove_61 : decode cX12_remove 61 = .ok (.getfield 31, 3) := by decide +kernel
theorem dX12_remove_64 : decode cX12_remove 64 = .ok (.iload 4, 2) := by decide +kernel
theorem dX12_remove_66 : decode cX12_remove 66 = .ok (.iaload, 1) := by decide +kernel
theorem dX12_remove_67 : decode cX12_remove 67 = .ok (.iconst 2, 1) := by decide +kernel
theorem dX12_remove_68 : decode cX12_remove 68 = .ok (.if_icmp .ne 16, 3) := by decide +kernel
theorem dX12_remove_71 : decode cX12_remove 71 = .ok (.aload_n 0, 1) := by decide +kernel
theorem dX12_remove_72 : decode cX12_remove 72 = .ok (.getfield 37, 3) := by decide +kernel
theorem dX12_remove_75 : decode cX12_remove 75 = .ok (.aload_n 0, 1) := by decide +kernel
theorem dX12_remove_76 : decode cX12_remove 76 = .ok (.getfield 130, 3) := by decide +kernel
theorem dX12_remove_79 : decode cX12_remove 79 = .ok (.dup2, 1) := by decide +kernel
theorem dX12_remove_80 : decode cX12_remove 80 = .ok (.iaload, 1) := by decide +kernel
theorem dX12_remove_81 : decode cX12_remove 81 = .ok (.iconst 1, 1) := by decide +kernel
theorem dX12_remove_82 : decode cX12_remove 82 = .ok (.isub, 1) := by decide +kernel
theorem dX12_remove_83 : decode cX12_remove 83 = .ok (.iastore, 1) := by decide +kernel
theorem dX12_remove_84 : decode cX12_remove 84 = .ok (.aload_n 0, 1) := by decide +kernel
theorem dX12_remove_85 : decode cX12_remove 85 = .ok (.iload 4, 2) := by decide +kernel
theorem dX12_remove_87 : decode cX12_remove 87 = .ok (.iconst 0, 1) := by decide +kernel
theorem dX12_remove_88 : decode cX12_remove 88 = .ok (.invokevirtual 243, 3) := by decide +kernel
theorem dX12_remove_91 : decode cX12_remove 91 = .ok (.aload_n 0, 1) := by decide +kernel
theorem dX12_remove_92 : decode cX12_remove 92 = .ok (.iload 4, 2) := by decide +kernel
theorem dX12_remove_94 : decode cX12_remove 94 = .ok (.invokevirtual 123, 3) := by decide +kernel
theorem dX12_remove_97 : decode cX12_remove 97 = .ok (.aload_n 0, 1) := by decide +kernel
theorem dX12_remove_98 : decode cX12_remove 98 = .ok (.getfield 31, 3) := by decide +kernel
theorem dX12_remove_101 : decode cX12_remove 101 = .ok (.iload 4, 2) := by decide +kernel
theorem dX12_remove_103 : decode cX12_remove 103 = .ok (.iconst 0, 1) := by decide +kernel
theorem dX12_remove_104 : decode cX12_remove 104 = .ok (.iastore, 1) := by decide +kernel
theorem dX12_remove_105 : decode cX12_remove 105 = .ok (.iload_n 3, 1) := by decide +kernel
theorem dX12_remove_106 : decode cX12_remove 106 = .ok (.iconst (-1), 1) := by decide +kernel
theorem dX12_remove_107 : decode cX12_remove 107 = .ok (.if_icmp .ne 13, 3) := by decide +kernel
theorem dX12_remove_110 : decode cX12_remove 110 = .ok (.aload_n 0, 1) := by decide +kernel
theorem dX12_remove_111 : decode cX12_remove 111 = .ok (.iload_n 2, 1) := by decide +kernel
theorem dX12_remove_112 : decode cX12_remove 112 = .ok (.iconst 4, 1) := by decide +kernel
theorem dX12_remove_113 : decode cX12_remove 113 = .ok (.iconst 0, 1) := by decide +kernel
theorem dX12_remove_114 : decode cX12_remove 114 = .ok (.invokevirtual 112, 3) := by decide +kernel
theorem dX12_remove_117 : decode cX12_remove 117 = .ok (.goto 26, 3) := by decide +kernel
theorem dX12_remove_120 : decode cX12_remove 120 = .ok (.aload_n 0, 1) := by decide +kernel
theorem dX12_remove_121 : decode cX12_remove 121 = .ok (.iload_n 3, 1) := by decide +kernel
theorem dX12_remove_122 : decode cX12_remove 122 = .ok (.iconst 4, 1) := by decide +kernel
theorem dX12_remove_123 : decode cX12_remove 123 = .ok (.iadd, 1) := by decide +kernel
theorem dX12_remove_124 : decode cX12_remove 124 = .ok (.iconst 2, 1) := by decide +kernel
theorem dX12_remove_125 : decode cX12_remove 125 = .ok (.aload_n 0, 1) := by decide +kernel
theorem dX12_remove_126 : decode cX12_remove 126 = .ok (.iload_n 3, 1) := by decide +kernel
theorem dX12_remove_127 : decode cX12_remove 127 = .ok (.iconst 4, 1) := by decide +kernel
theorem dX12_remove_128 : decode cX12_remove 128 = .ok (.iadd, 1) := by decide +kernel
theorem dX12_remove_129 : decode cX12_remove 129 = .ok (.invokevirtual 105, 3) := by decide +kernel
theorem dX12_remove_132 : decode cX12_remove 132 = .ok (.aload_n 0, 1) := by decide +kernel
theorem dX12_remove_133 : decode cX12_remove 133 = .ok (.iload_n 2, 1) := by decide +kernel
theorem dX12_remove_134 : decode cX12_remove 134 = .ok (.iconst 4, 1) := by decide +kernel
theorem dX12_remove_135 : decode cX12_remove 135 = .ok (.iadd, 1) := by decide +kernel
theorem dX12_remove_136 : decode cX12_remove 136 = .ok (.invokevirtual 105, 3) := by decide +kernel
theorem dX12_remove_139 : decode cX12_remove 139 = .ok (.iadd, 1) := by decide +kernel
theorem dX12_remove_140 : decode cX12_remove 140 = .ok (.invokevirtual 112, 3) := by decide +kernel
theorem dX12_remove_143 : decode cX12_remove 143 = .ok (.aload_n 0, 1) := by decide +kernel
theorem dX12_remove_144 : decode cX12_remove 144 = .ok (.iconst 0, 1) := by decide +kernel
theorem dX12_remove_145 : decode cX12_remove 145 = .ok (.putfield 137, 3) := by decide +kernel
theorem dX12_remove_148 : decode cX12_remove 148 = .ok (.return_, 1) := by decide +kernel
theorem dX12_stamp_0 : decode cX12_stamp 0 = .ok (.aload_n 0, 1) := by decide +kernel
theorem dX12_stamp_1 : decode cX12_stamp 1 = .ok (.iload_n 1, 1) := by decide +kernel
theorem dX12_stamp_2 : decode cX12_stamp 2 = .ok (.invokevirtual 216, 3) := by decide +kernel
theorem dX12_stamp_5 : decode cX12_stamp 5 = .ok (.ifCond .ne 25, 3) := by decide +kernel
theorem dX12_stamp_8 : decode cX12_stamp 8 = .ok (.aload_n 0, 1) := by decide +kernel
theorem dX12_stamp_9 : decode cX12_stamp 9 = .ok (.iload_n 2, 1) := by decide +kernel
theorem dX12_stamp_10 : decode cX12_stamp 10 = .ok (.ifCond .lt 8, 3) := by decide +kernel
theorem dX12_stamp_13 : decode cX12_stamp 13 = .ok (.iload_n 2, 1) := by decide +kernel
theorem dX12_stamp_14 : decode cX12_stamp 14 = .ok (.iconst 2, 1) := by decide +kernel
theorem dX12_stamp_15 : decode cX12_stamp 15 = .ok (.if_icmp .le 7, 3) := by decide +kernel
theorem dX12_stamp_18 : decode cX12_stamp 18 = .ok (.iconst 1, 1) := by decide +kernel
theorem dX12_stamp_19 : decode cX12_stamp 19 = .ok (.goto 4, 3) := by decide +kernel
theorem dX12_stamp_22 : decode cX12_stamp 22 = .ok (.iconst 0, 1) := by decide +kernel
theorem dX12_stamp_23 : decode cX12_stamp 23 = .ok (.iconst 3, 1) := by decide +kernel
theorem dX12_stamp_24 : decode cX12_stamp 24 = .ok (.invokevirtual 205, 3) := by decide +kernel
theorem dX12_stamp_27 : decode cX12_stamp 27 = .ok (.ifCond .eq 4, 3) := by decide +kernel
theorem dX12_stamp_30 : decode cX12_stamp 30 = .ok (.return_, 1) := by decide +kernel
theorem dX12_stamp_31 : decode cX12_stamp 31 = .ok (.aload_n 0, 1) := by decide +kernel
theorem dX12_stamp_32 : decode cX12_stamp 32 = .ok (.getfield 61, 3) := by decide +kernel
theorem dX12_stamp_35 : decode cX12_stamp 35 = .ok (.iconst 3, 1) := by decide +kernel
theorem dX12_stamp_36 : decode cX12_stamp 36 = .ok (.aload_n 0, 1) := by decide +kernel
theorem dX12_stamp_37 : decode cX12_stamp 37 = .ok (.aload_n 0, 1) := by decide +kernel
theorem dX12_stamp_38 : decode cX12_stamp 38 = .ok (.getfield 198, 3) := by decide +kernel
theorem dX12_stamp_41 : decode cX12_stamp 41 = .ok (.invokevirtual 189, 3) := by decide +kernel
theorem dX12_stamp_44 : decode cX12_stamp 44 = .ok (.imul, 1) := by decide +kernel
theorem dX12_stamp_45 : decode cX12_stamp 45 = .ok (.iload_n 2, 1) := by decide +kernel
theorem dX12_stamp_46 : decode cX12_stamp 46 = .ok (.iadd, 1) := by decide +kernel
theorem dX12_stamp_47 : decode cX12_stamp 47 = .ok (.lload_n 3, 1) := by decide +kernel
theorem dX12_stamp_48 : decode cX12_stamp 48 = .ok (.ldc2_w 247, 3) := by decide +kernel
theorem dX12_stamp_51 : decode cX12_stamp 51 = .ok (.land, 1) := by decide +kernel
theorem dX12_stamp_52 : decode cX12_stamp 52 = .ok (.lastore, 1) := by decide +kernel
theorem dX12_stamp_53 : decode cX12_stamp 53 = .ok (.aload_n 0, 1) := by decide +kernel
theorem dX12_stamp_54 : decode cX12_stamp 54 = .ok (.iconst 0, 1) := by decide +kernel
theorem dX12_stamp_55 : decode cX12_stamp 55 = .ok (.putfield 137, 3) := by decide +kernel
theorem dX12_stamp_58 : decode cX12_stamp 58 = .ok (.return_, 1) := by decide +kernel
theorem dJ2_fill_0 : decode cJ2_fill 0 = .ok (.iconst 0, 1) := by decide +kernel
theorem dJ2_fill_1 : decode cJ2_fill 1 = .ok (.istore_n 2, 1) := by decide +kernel
theorem dJ2_fill_2 : decode cJ2_fill 2 = .ok (.aload_n 0, 1) := by decide +kernel
theorem dJ2_fill_3 : decode cJ2_fill 3 = .ok (.arraylength, 1) := by decide +kernel
theorem dJ2_fill_4 : decode cJ2_fill 4 = .ok (.istore_n 3, 1) := by decide +kernel
theorem dJ2_fill_5 : decode cJ2_fill 5 = .ok (.iload_n 2, 1) := by decide +kernel
theorem dJ2_fill_6 : decode cJ2_fill 6 = .ok (.iload_n 3, 1) := by decide +kernel
theorem dJ2_fill_7 : decode cJ2_fill 7 = .ok (.if_icmp .ge 13, 3) := by decide +kernel
theorem dJ2_fill_10 : decode cJ2_fill 10 = .ok (.aload_n 0, 1) := by decide +kernel
theorem dJ2_fill_11 : decode cJ2_fill 11 = .ok (.iload_n 2, 1) := by decide +kernel
theorem dJ2_fill_12 : decode cJ2_fill 12 = .ok (.iload_n 1, 1) := by decide +kernel
theorem dJ2_fill_13 : decode cJ2_fill 13 = .ok (.bastore, 1) := by decide +kernel
theorem dJ2_fill_14 : decode cJ2_fill 14 = .ok (.iinc 2 1, 3) := by decide +kernel
theorem dJ2_fill_17 : decode cJ2_fill 17 = .ok (.goto (-12), 3) := by decide +kernel
theorem dJ2_fill_20 : decode cJ2_fill 20 = .ok (.return_, 1) := by decide +kernel
theorem dJ2_rangeCheck_0 : decode cJ2_rangeCheck 0 = .ok (.iload_n 1, 1) := by decide +kernel
theorem dJ2_rangeCheck_1 : decode cJ2_rangeCheck 1 = .ok (.iload_n 2, 1) := by decide +kernel
theorem dJ2_rangeCheck_2 : decode cJ2_rangeCheck 2 = .ok (.if_icmp .le 44, 3) := by decide +kernel
theorem dJ2_rangeCheck_5 : decode cJ2_rangeCheck 5 = .ok (.new 43, 3) := by decide +kernel
theorem dJ2_rangeCheck_8 : decode cJ2_rangeCheck 8 = .ok (.dup, 1) := by decide +kernel
theorem dJ2_rangeCheck_9 : decode cJ2_rangeCheck 9 = .ok (.new 45, 3) := by decide +kernel
theorem dJ2_rangeCheck_12 : decode cJ2_rangeCheck 12 = .ok (.dup, 1) := by decide +kernel
theorem dJ2_rangeCheck_13 : decode cJ2_rangeCheck 13 = .ok (.invokespecial 47, 3) := by decide +kernel
theorem dJ2_rangeCheck_16 : decode cJ2_rangeCheck 16 = .ok (.ldc 48, 2) := by decide +kernel
theorem dJ2_rangeCheck_18 : decode cJ2_rangeCheck 18 = .ok (.invokevirtual 50, 3) := by decide +kernel
theorem dJ2_rangeCheck_21 : decode cJ2_rangeCheck 21 = .ok (.iload_n 1, 1) := by decide +kernel
theorem dJ2_rangeCheck_22 : decode cJ2_rangeCheck 22 = .ok (.invokevirtual 54, 3) := by decide +kernel
theorem dJ2_rangeCheck_25 : decode cJ2_rangeCheck 25 = .ok (.ldc 57, 2) := by decide +kernel
theorem dJ2_rangeCheck_27 : decode cJ2_rangeCheck 27 = .ok (.invokevirtual 50, 3) := by decide +kernel
theorem dJ2_rangeCheck_30 : decode cJ2_rangeCheck 30 = .ok (.iload_n 2, 1) := by decide +kernel
theorem dJ2_rangeCheck_31 : decode cJ2_rangeCheck 31 = .ok (.invokevirtual 54, 3) := by decide +kernel
theorem dJ2_rangeCheck_34 : decode cJ2_rangeCheck 34 = .ok (.ldc 59, 2) := by decide +kernel
theorem dJ2_rangeCheck_36 : decode cJ2_rangeCheck 36 = .ok (.invokevirtual 50, 3) := by decide +kernel
theorem dJ2_rangeCheck_39 : decode cJ2_rangeCheck 39 = .ok (.invokevirtual 61, 3) := by decide +kernel
theorem dJ2_rangeCheck_42 : decode cJ2_rangeCheck 42 = .ok (.invokespecial 65, 3) := by decide +kernel
theorem dJ2_rangeCheck_45 : decode cJ2_rangeCheck 45 = .ok (.athrow, 1) := by decide +kernel
theorem dJ2_rangeCheck_46 : decode cJ2_rangeCheck 46 = .ok (.iload_n 1, 1) := by decide +kernel
theorem dJ2_rangeCheck_47 : decode cJ2_rangeCheck 47 = .ok (.ifCond .ge 12, 3) := by decide +kernel
theorem dJ2_rangeCheck_50 : decode cJ2_rangeCheck 50 = .ok (.new 68, 3) := by decide +kernel
theorem dJ2_rangeCheck_53 : decode cJ2_rangeCheck 53 = .ok (.dup, 1) := by decide +kernel
theorem dJ2_rangeCheck_54 : decode cJ2_rangeCheck 54 = .ok (.iload_n 1, 1) := by decide +kernel
theorem dJ2_rangeCheck_55 : decode cJ2_rangeCheck 55 = .ok (.invokespecial 70, 3) := by decide +kernel
theorem dJ2_rangeCheck_58 : decode cJ2_rangeCheck 58 = .ok (.athrow, 1) := by decide +kernel
theorem dJ2_rangeCheck_59 : decode cJ2_rangeCheck 59 = .ok (.iload_n 2, 1) := by decide +kernel
theorem dJ2_rangeCheck_60 : decode cJ2_rangeCheck 60 = .ok (.iload_n 0, 1) := by decide +kernel
theorem dJ2_rangeCheck_61 : decode cJ2_rangeCheck 61 = .ok (.if_icmp .le 12, 3) := by decide +kernel
theorem dJ2_rangeCheck_64 : decode cJ2_rangeCheck 64 = .ok (.new 68, 3) := by decide +kernel
theorem dJ2_rangeCheck_67 : decode cJ2_rangeCheck 67 = .ok (.dup, 1) := by decide +kernel
theorem dJ2_rangeCheck_68 : decode cJ2_rangeCheck 68 = .ok (.iload_n 2, 1) := by decide +kernel
theorem dJ2_rangeCheck_69 : decode cJ2_rangeCheck 69 = .ok (.invokespecial 70, 3) := by decide +kernel
theorem dJ2_rangeCheck_72 : decode cJ2_rangeCheck 72 = .ok (.athrow, 1) := by decide +kernel
theorem dJ2_rangeCheck_73 : decode cJ2_rangeCheck 73 = .ok (.return_, 1) := by decide +kernel
theorem dJ2_fill___0 : decode cJ2_fill__ 0 = .ok (.aload_n 0, 1) := by decide +kernel
theorem dJ2_fill___1 : decode cJ2_fill__ 1 = .ok (.arraylength, 1) := by decide +kernel
theorem dJ2_fill___2 : decode cJ2_fill__ 2 = .ok (.iload_n 1, 1) := by decide +kernel
theorem dJ2_fill___3 : decode cJ2_fill__ 3 = .ok (.iload_n 2, 1) := by decide +kernel
theorem dJ2_fill___4 : decode cJ2_fill__ 4 = .ok (.invokestatic 13, 3) := by decide +kernel
theorem dJ2_fill___7 : decode cJ2_fill__ 7 = .ok (.iload_n 1, 1) := by decide +kernel
theorem dJ2_fill___8 : decode cJ2_fill__ 8 = .ok (.istore 4, 2) := by decide +kernel
theorem dJ2_fill___10 : decode cJ2_fill__ 10 = .ok (.iload 4, 2) := by decide +kernel
theorem dJ2_fill___12 : decode cJ2_fill__ 12 = .ok (.iload_n 2, 1) := by decide +kernel
theorem dJ2_fill___13 : decode cJ2_fill__ 13 = .ok (.if_icmp .ge 14, 3) := by decide +kernel
theorem dJ2_fill___16 : decode cJ2_fill__ 16 = .ok (.aload_n 0, 1) := by decide +kernel
theorem dJ2_fill___17 : decode cJ2_fill__ 17 = .ok (.iload 4, 2) := by decide +kernel
theorem dJ2_fill___19 : decode cJ2_fill__ 19 = .ok (.iload_n 3, 1) := by decide +kernel
theorem dJ2_fill___20 : decode cJ2_fill__ 20 = .ok (.bastore, 1) := by decide +kernel
theorem dJ2_fill___21 : decode cJ2_fill__ 21 = .ok (.iinc 4 1, 3) := by decide +kernel
theorem dJ2_fill___24 : decode cJ2_fill__ 24 = .ok (.goto (-14), 3) := by decide +kernel
theorem dJ2_fill___27 : decode cJ2_fill__ 27 = .ok (.return_, 1) := by decide +kernel
theorem dJ11_bitCount_0 : decode cJ11_bitCount 0 = .ok (.iload_n 0, 1) := by decide +kernel
theorem dJ11_bitCount_1 : decode cJ11_bitCount 1 = .ok (.iload_n 0, 1) := by decide +kernel
theorem dJ11_bitCount_2 : decode cJ11_bitCount 2 = .ok (.iconst 1, 1) := by decide +kernel
theorem dJ11_bitCount_3 : decode cJ11_bitCount 3 = .ok (.iushr, 1) := by decide +kernel
theorem dJ11_bitCount_4 : decode cJ11_bitCount 4 = .ok (.ldc_w 265, 3) := by decide +kernel
theorem dJ11_bitCount_7 : decode cJ11_bitCount 7 = .ok (.iand, 1) := by decide +kernel
theorem dJ11_bitCount_8 : decode cJ11_bitCount 8 = .ok (.isub, 1) := by decide +kernel
theorem dJ11_bitCount_9 : decode cJ11_bitCount 9 = .ok (.istore_n 0, 1) := by decide +kernel
theorem dJ11_bitCount_10 : decode cJ11_bitCount 10 = .ok (.iload_n 0, 1) := by decide +kernel
theorem dJ11_bitCount_11 : decode cJ11_bitCount 11 = .ok (.ldc_w 266, 3) := by decide +kernel
theorem dJ11_bitCount_14 : decode cJ11_bitCount 14 = .ok (.iand, 1) := by decide +kernel
theorem dJ11_bitCount_15 : decode cJ11_bitCount 15 = .ok (.iload_n 0, 1) := by decide +kernel
theorem dJ11_bitCount_16 : decode cJ11_bitCount 16 = .ok (.iconst 2, 1) := by decide +kernel
theorem dJ11_bitCount_17 : decode cJ11_bitCount 17 = .ok (.iushr, 1) := by decide +kernel
theorem dJ11_bitCount_18 : decode cJ11_bitCount 18 = .ok (.ldc_w 266, 3) := by decide +kernel
theorem dJ11_bitCount_21 : decode cJ11_bitCount 21 = .ok (.iand, 1) := by decide +kernel
theorem dJ11_bitCount_22 : decode cJ11_bitCount 22 = .ok (.iadd, 1) := by decide +kernel
theorem dJ11_bitCount_23 : decode cJ11_bitCount 23 = .ok (.istore_n 0, 1) := by decide +kernel
theorem dJ11_bitCount_24 : decode cJ11_bitCount 24 = .ok (.iload_n 0, 1) := by decide +kernel
theorem dJ11_bitCount_25 : decode cJ11_bitCount 25 = .ok (.iload_n 0, 1) := by decide +kernel
theorem dJ11_bitCount_26 : decode cJ11_bitCount 26 = .ok (.iconst 4, 1) := by decide +kernel
theorem dJ11_bitCount_27 : decode cJ11_bitCount 27 = .ok (.iushr, 1) := by decide +kernel
theorem dJ11_bitCount_28 : decode cJ11_bitCount 28 = .ok (.iadd, 1) := by decide +kernel
theorem dJ11_bitCount_29 : decode cJ11_bitCount 29 = .ok (.ldc_w 267, 3) := by decide +kernel
theorem dJ11_bitCount_32 : decode cJ11_bitCount 32 = .ok (.iand, 1) := by decide +kernel
theorem dJ11_bitCount_33 : decode cJ11_bitCount 33 = .ok (.istore_n 0, 1) := by decide +kernel
theorem dJ11_bitCount_34 : decode cJ11_bitCount 34 = .ok (.iload_n 0, 1) := by decide +kernel
theorem dJ11_bitCount_35 : decode cJ11_bitCount 35 = .ok (.iload_n 0, 1) := by decide +kernel
theorem dJ11_bitCount_36 : decode cJ11_bitCount 36 = .ok (.bipush 8, 2) := by decide +kernel
theorem dJ11_bitCount_38 : decode cJ11_bitCount 38 = .ok (.iushr, 1) := by decide +kernel
theorem dJ11_bitCount_39 : decode cJ11_bitCount 39 = .ok (.iadd, 1) := by decide +kernel
theorem dJ11_bitCount_40 : decode cJ11_bitCount 40 = .ok (.istore_n 0, 1) := by decide +kernel
theorem dJ11_bitCount_41 : decode cJ11_bitCount 41 = .ok (.iload_n 0, 1) := by decide +kernel
theorem dJ11_bitCount_42 : decode cJ11_bitCount 42 = .ok (.iload_n 0, 1) := by decide +kernel
theorem dJ11_bitCount_43 : decode cJ11_bitCount 43 = .ok (.bipush 16, 2) := by decide +kernel
theorem dJ11_bitCount_45 : decode cJ11_bitCount 45 = .ok (.iushr, 1) := by decide +kernel
theorem dJ11_bitCount_46 : decode cJ11_bitCount 46 = .ok (.iadd, 1) := by decide +kernel
theorem dJ11_bitCount_47 : decode cJ11_bitCount 47 = .ok (.istore_n 0, 1) := by decide +kernel
theorem dJ11_bitCount_48 : decode cJ11_bitCount 48 = .ok (.iload_n 0, 1) := by decide +kernel
theorem dJ11_bitCount_49 : decode cJ11_bitCount 49 = .ok (.bipush 63, 2) := by decide +kernel
theorem dJ11_bitCount_51 : decode cJ11_bitCount 51 = .ok (.iand, 1) := by decide +kernel
theorem dJ11_bitCount_52 : decode cJ11_bitCount 52 = .ok (.ireturn, 1) := by decide +kernel
theorem dJ2_fill__0 : decode cJ2_fill_ 0 = .ok (.iconst 0, 1) := by decide +kernel
theorem dJ2_fill__1 : decode cJ2_fill_ 1 = .ok (.istore_n 2, 1) := by decide +kernel
theorem dJ2_fill__2 : decode cJ2_fill_ 2 = .ok (.aload_n 0, 1) := by decide +kernel
theorem dJ2_fill__3 : decode cJ2_fill_ 3 = .ok (.arraylength, 1) := by decide +kernel
theorem dJ2_fill__4 : decode cJ2_fill_ 4 = .ok (.istore_n 3, 1) := by decide +kernel
theorem dJ2_fill__5 : decode cJ2_fill_ 5 = .ok (.iload_n 2, 1) := by decide +kernel
theorem dJ2_fill__6 : decode cJ2_fill_ 6 = .ok (.iload_n 3, 1) := by decide +kernel
theorem dJ2_fill__7 : decode cJ2_fill_ 7 = .ok (.if_icmp .ge 13, 3) := by decide +kernel
theorem dJ2_fill__10 : decode cJ2_fill_ 10 = .ok (.aload_n 0, 1) := by decide +kernel
theorem dJ2_fill__11 : decode cJ2_fill_ 11 = .ok (.iload_n 2, 1) := by decide +kernel
theorem dJ2_fill__12 : decode cJ2_fill_ 12 = .ok (.iload_n 1, 1) := by decide +kernel
theorem dJ2_fill__13 : decode cJ2_fill_ 13 = .ok (.iastore, 1) := by decide +kernel
theorem dJ2_fill__14 : decode cJ2_fill_ 14 = .ok (.iinc 2 1, 3) := by decide +kernel
theorem dJ2_fill__17 : decode cJ2_fill_ 17 = .ok (.goto (-12), 3) := by decide +kernel
theorem dJ2_fill__20 : decode cJ2_fill_ 20 = .ok (.return_, 1) := by decide +kernel
