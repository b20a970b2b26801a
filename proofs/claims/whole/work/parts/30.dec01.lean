theorem dJ6_bitCount_0f7a4_0 : decode cJ6_bitCount_0f7a4 0 = .ok (.iload_n 0, 1) := by decide +kernel
theorem dJ6_bitCount_0f7a4_1 : decode cJ6_bitCount_0f7a4 1 = .ok (.iload_n 0, 1) := by decide +kernel
theorem dJ6_bitCount_0f7a4_2 : decode cJ6_bitCount_0f7a4 2 = .ok (.iconst 1, 1) := by decide +kernel
theorem dJ6_bitCount_0f7a4_3 : decode cJ6_bitCount_0f7a4 3 = .ok (.iushr, 1) := by decide +kernel
theorem dJ6_bitCount_0f7a4_4 : decode cJ6_bitCount_0f7a4 4 = .ok (.ldc_w 265, 3) := by decide +kernel
theorem dJ6_bitCount_0f7a4_7 : decode cJ6_bitCount_0f7a4 7 = .ok (.iand, 1) := by decide +kernel
theorem dJ6_bitCount_0f7a4_8 : decode cJ6_bitCount_0f7a4 8 = .ok (.isub, 1) := by decide +kernel
theorem dJ6_bitCount_0f7a4_9 : decode cJ6_bitCount_0f7a4 9 = .ok (.istore_n 0, 1) := by decide +kernel
theorem dJ6_bitCount_0f7a4_10 : decode cJ6_bitCount_0f7a4 10 = .ok (.iload_n 0, 1) := by decide +kernel
theorem dJ6_bitCount_0f7a4_11 : decode cJ6_bitCount_0f7a4 11 = .ok (.ldc_w 266, 3) := by decide +kernel
theorem dJ6_bitCount_0f7a4_14 : decode cJ6_bitCount_0f7a4 14 = .ok (.iand, 1) := by decide +kernel
theorem dJ6_bitCount_0f7a4_15 : decode cJ6_bitCount_0f7a4 15 = .ok (.iload_n 0, 1) := by decide +kernel
theorem dJ6_bitCount_0f7a4_16 : decode cJ6_bitCount_0f7a4 16 = .ok (.iconst 2, 1) := by decide +kernel
theorem dJ6_bitCount_0f7a4_17 : decode cJ6_bitCount_0f7a4 17 = .ok (.iushr, 1) := by decide +kernel
theorem dJ6_bitCount_0f7a4_18 : decode cJ6_bitCount_0f7a4 18 = .ok (.ldc_w 266, 3) := by decide +kernel
theorem dJ6_bitCount_0f7a4_21 : decode cJ6_bitCount_0f7a4 21 = .ok (.iand, 1) := by decide +kernel
theorem dJ6_bitCount_0f7a4_22 : decode cJ6_bitCount_0f7a4 22 = .ok (.iadd, 1) := by decide +kernel
theorem dJ6_bitCount_0f7a4_23 : decode cJ6_bitCount_0f7a4 23 = .ok (.istore_n 0, 1) := by decide +kernel
theorem dJ6_bitCount_0f7a4_24 : decode cJ6_bitCount_0f7a4 24 = .ok (.iload_n 0, 1) := by decide +kernel
theorem dJ6_bitCount_0f7a4_25 : decode cJ6_bitCount_0f7a4 25 = .ok (.iload_n 0, 1) := by decide +kernel
theorem dJ6_bitCount_0f7a4_26 : decode cJ6_bitCount_0f7a4 26 = .ok (.iconst 4, 1) := by decide +kernel
theorem dJ6_bitCount_0f7a4_27 : decode cJ6_bitCount_0f7a4 27 = .ok (.iushr, 1) := by decide +kernel
theorem dJ6_bitCount_0f7a4_28 : decode cJ6_bitCount_0f7a4 28 = .ok (.iadd, 1) := by decide +kernel
theorem dJ6_bitCount_0f7a4_29 : decode cJ6_bitCount_0f7a4 29 = .ok (.ldc_w 267, 3) := by decide +kernel
theorem dJ6_bitCount_0f7a4_32 : decode cJ6_bitCount_0f7a4 32 = .ok (.iand, 1) := by decide +kernel
theorem dJ6_bitCount_0f7a4_33 : decode cJ6_bitCount_0f7a4 33 = .ok (.istore_n 0, 1) := by decide +kernel
theorem dJ6_bitCount_0f7a4_34 : decode cJ6_bitCount_0f7a4 34 = .ok (.iload_n 0, 1) := by decide +kernel
theorem dJ6_bitCount_0f7a4_35 : decode cJ6_bitCount_0f7a4 35 = .ok (.iload_n 0, 1) := by decide +kernel
theorem dJ6_bitCount_0f7a4_36 : decode cJ6_bitCount_0f7a4 36 = .ok (.bipush 8, 2) := by decide +kernel
theorem dJ6_bitCount_0f7a4_38 : decode cJ6_bitCount_0f7a4 38 = .ok (.iushr, 1) := by decide +kernel
theorem dJ6_bitCount_0f7a4_39 : decode cJ6_bitCount_0f7a4 39 = .ok (.iadd, 1) := by decide +kernel
theorem dJ6_bitCount_0f7a4_40 : decode cJ6_bitCount_0f7a4 40 = .ok (.istore_n 0, 1) := by decide +kernel
theorem dJ6_bitCount_0f7a4_41 : decode cJ6_bitCount_0f7a4 41 = .ok (.iload_n 0, 1) := by decide +kernel
theorem dJ6_bitCount_0f7a4_42 : decode cJ6_bitCount_0f7a4 42 = .ok (.iload_n 0, 1) := by decide +kernel
theorem dJ6_bitCount_0f7a4_43 : decode cJ6_bitCount_0f7a4 43 = .ok (.bipush 16, 2) := by decide +kernel
theorem dJ6_bitCount_0f7a4_45 : decode cJ6_bitCount_0f7a4 45 = .ok (.iushr, 1) := by decide +kernel
theorem dJ6_bitCount_0f7a4_46 : decode cJ6_bitCount_0f7a4 46 = .ok (.iadd, 1) := by decide +kernel
theorem dJ6_bitCount_0f7a4_47 : decode cJ6_bitCount_0f7a4 47 = .ok (.istore_n 0, 1) := by decide +kernel
theorem dJ6_bitCount_0f7a4_48 : decode cJ6_bitCount_0f7a4 48 = .ok (.iload_n 0, 1) := by decide +kernel
theorem dJ6_bitCount_0f7a4_49 : decode cJ6_bitCount_0f7a4 49 = .ok (.bipush 63, 2) := by decide +kernel
theorem dJ6_bitCount_0f7a4_51 : decode cJ6_bitCount_0f7a4 51 = .ok (.iand, 1) := by decide +kernel
theorem dJ6_bitCount_0f7a4_52 : decode cJ6_bitCount_0f7a4 52 = .ok (.ireturn, 1) := by decide +kernel
theorem dJ9_max_7cf53_0 : decode cJ9_max_7cf53 0 = .ok (.iload_n 0, 1) := by decide +kernel
theorem dJ9_max_7cf53_1 : decode cJ9_max_7cf53 1 = .ok (.iload_n 1, 1) := by decide +kernel
theorem dJ9_max_7cf53_2 : decode cJ9_max_7cf53 2 = .ok (.if_icmp .lt 7, 3) := by decide +kernel
theorem dJ9_max_7cf53_5 : decode cJ9_max_7cf53 5 = .ok (.iload_n 0, 1) := by decide +kernel
theorem dJ9_max_7cf53_6 : decode cJ9_max_7cf53 6 = .ok (.goto 4, 3) := by decide +kernel
theorem dJ9_max_7cf53_9 : decode cJ9_max_7cf53 9 = .ok (.iload_n 1, 1) := by decide +kernel
theorem dJ9_max_7cf53_10 : decode cJ9_max_7cf53 10 = .ok (.ireturn, 1) := by decide +kernel
theorem dJ9_min_7cf53_0 : decode cJ9_min_7cf53 0 = .ok (.iload_n 0, 1) := by decide +kernel
theorem dJ9_min_7cf53_1 : decode cJ9_min_7cf53 1 = .ok (.iload_n 1, 1) := by decide +kernel
theorem dJ9_min_7cf53_2 : decode cJ9_min_7cf53 2 = .ok (.if_icmp .gt 7, 3) := by decide +kernel
theorem dJ9_min_7cf53_5 : decode cJ9_min_7cf53 5 = .ok (.iload_n 0, 1) := by decide +kernel
theorem dJ9_min_7cf53_6 : decode cJ9_min_7cf53 6 = .ok (.goto 4, 3) := by decide +kernel
theorem dJ9_min_7cf53_9 : decode cJ9_min_7cf53 9 = .ok (.iload_n 1, 1) := by decide +kernel
theorem dJ9_min_7cf53_10 : decode cJ9_min_7cf53 10 = .ok (.ireturn, 1) := by decide +kernel
theorem dX0_init_0 : decode cX0_init 0 = .ok (.aload_n 0, 1) := by decide +kernel
theorem dX0_init_1 : decode cX0_init 1 = .ok (.invokespecial 3, 3) := by decide +kernel
theorem dX0_init_4 : decode cX0_init 4 = .ok (.aload_n 0, 1) := by decide +kernel
theorem dX0_init_5 : decode cX0_init 5 = .ok (.sipush 216, 3) := by decide +kernel
theorem dX0_init_8 : decode cX0_init 8 = .ok (.newarray .int, 2) := by decide +kernel
theorem dX0_init_10 : decode cX0_init 10 = .ok (.putfield 9, 3) := by decide +kernel
theorem dX0_init_13 : decode cX0_init 13 = .ok (.aload_n 0, 1) := by decide +kernel
theorem dX0_init_14 : decode cX0_init 14 = .ok (.sipush 216, 3) := by decide +kernel
theorem dX0_init_17 : decode cX0_init 17 = .ok (.newarray .int, 2) := by decide +kernel
theorem dX0_init_19 : decode cX0_init 19 = .ok (.putfield 15, 3) := by decide +kernel
theorem dX0_init_22 : decode cX0_init 22 = .ok (.aload_n 0, 1) := by decide +kernel
theorem dX0_init_23 : decode cX0_init 23 = .ok (.sipush 1944, 3) := by decide +kernel
theorem dX0_init_26 : decode cX0_init 26 = .ok (.newarray .int, 2) := by decide +kernel
theorem dX0_init_28 : decode cX0_init 28 = .ok (.putfield 18, 3) := by decide +kernel
theorem dX0_init_31 : decode cX0_init 31 = .ok (.aload_n 0, 1) := by decide +kernel
theorem dX0_init_32 : decode cX0_init 32 = .ok (.sipush 144, 3) := by decide +kernel
theorem dX0_init_35 : decode cX0_init 35 = .ok (.newarray .int, 2) := by decide +kernel
theorem dX0_init_37 : decode cX0_init 37 = .ok (.putfield 21, 3) := by decide +kernel
theorem dX0_init_40 : decode cX0_init 40 = .ok (.aload_n 0, 1) := by decide +kernel
theorem dX0_init_41 : decode cX0_init 41 = .ok (.bipush 24, 2) := by decide +kernel
theorem dX0_init_43 : decode cX0_init 43 = .ok (.putfield 24, 3) := by decide +kernel
theorem dX0_init_46 : decode cX0_init 46 = .ok (.return_, 1) := by decide +kernel
theorem dX0_loadAt_0 : decode cX0_loadAt 0 = .ok (.aload_n 0, 1) := by decide +kernel
theorem dX0_loadAt_1 : decode cX0_loadAt 1 = .ok (.getfield 9, 3) := by decide +kernel
theorem dX0_loadAt_4 : decode cX0_loadAt 4 = .ok (.iload_n 2, 1) := by decide +kernel
theorem dX0_loadAt_5 : decode cX0_loadAt 5 = .ok (.bipush 9, 2) := by decide +kernel
theorem dX0_loadAt_7 : decode cX0_loadAt 7 = .ok (.imul, 1) := by decide +kernel
theorem dX0_loadAt_8 : decode cX0_loadAt 8 = .ok (.iload_n 1, 1) := by decide +kernel
theorem dX0_loadAt_9 : decode cX0_loadAt 9 = .ok (.iadd, 1) := by decide +kernel
theorem dX0_loadAt_10 : decode cX0_loadAt 10 = .ok (.iaload, 1) := by decide +kernel
theorem dX0_loadAt_11 : decode cX0_loadAt 11 = .ok (.ireturn, 1) := by decide +kernel
theorem dX0_fallAt_0 : decode cX0_fallAt 0 = .ok (.aload_n 0, 1) := by decide +kernel
theorem dX0_fallAt_1 : decode cX0_fallAt 1 = .ok (.getfield 15, 3) := by decide +kernel
theorem dX0_fallAt_4 : decode cX0_fallAt 4 = .ok (.iload_n 2, 1) := by decide +kernel
theorem dX0_fallAt_5 : decode cX0_fallAt 5 = .ok (.bipush 9, 2) := by decide +kernel
theorem dX0_fallAt_7 : decode cX0_fallAt 7 = .ok (.imul, 1) := by decide +kernel
theorem dX0_fallAt_8 : decode cX0_fallAt 8 = .ok (.iload_n 1, 1) := by decide +kernel
theorem dX0_fallAt_9 : decode cX0_fallAt 9 = .ok (.iadd, 1) := by decide +kernel
theorem dX0_fallAt_10 : decode cX0_fallAt 10 = .ok (.iaload, 1) := by decide +kernel
theorem dX0_fallAt_11 : decode cX0_fallAt 11 = .ok (.ireturn, 1) := by decide +kernel
theorem dX0_worksAt_0 : decode cX0_worksAt 0 = .ok (.aload_n 0, 1) := by decide +kernel
theorem dX0_worksAt_1 : decode cX0_worksAt 1 = .ok (.getfield 21, 3) := by decide +kernel
theorem dX0_worksAt_4 : decode cX0_worksAt 4 = .ok (.iload_n 2, 1) := by decide +kernel
theorem dX0_worksAt_5 : decode cX0_worksAt 5 = .ok (.bipush 6, 2) := by decide +kernel
theorem dX0_worksAt_7 : decode cX0_worksAt 7 = .ok (.imul, 1) := by decide +kernel
theorem dX0_worksAt_8 : decode cX0_worksAt 8 = .ok (.iload_n 1, 1) := by decide +kernel
theorem dX0_worksAt_9 : decode cX0_worksAt 9 = .ok (.iadd, 1) := by decide +kernel
theorem dX0_worksAt_10 : decode cX0_worksAt 10 = .ok (.iaload, 1) := by decide +kernel
theorem dX0_worksAt_11 : decode cX0_worksAt 11 = .ok (.ireturn, 1) := by decide +kernel
theorem dX0_freeAt_0 : decode cX0_freeAt 0 = .ok (.aload_n 1, 1) := by decide +kernel
theorem dX0_freeAt_1 : decode cX0_freeAt 1 = .ok (.iload_n 2, 1) := by decide +kernel
theorem dX0_freeAt_2 : decode cX0_freeAt 2 = .ok (.invokevirtual 28, 3) := by decide +kernel
theorem dX0_freeAt_5 : decode cX0_freeAt 5 = .ok (.getfield 34, 3) := by decide +kernel
theorem dX0_freeAt_8 : decode cX0_freeAt 8 = .ok (.aload_n 0, 1) := by decide +kernel
theorem dX0_freeAt_9 : decode cX0_freeAt 9 = .ok (.iload_n 2, 1) := by decide +kernel
theorem dX0_freeAt_10 : decode cX0_freeAt 10 = .ok (.iload_n 3, 1) := by decide +kernel
theorem dX0_freeAt_11 : decode cX0_freeAt 11 = .ok (.invokevirtual 39, 3) := by decide +kernel
theorem dX0_freeAt_14 : decode cX0_freeAt 14 = .ok (.isub, 1) := by decide +kernel
theorem dX0_freeAt_15 : decode cX0_freeAt 15 = .ok (.aload_n 0, 1) := by decide +kernel
theorem dX0_freeAt_16 : decode cX0_freeAt 16 = .ok (.iload_n 2, 1) := by decide +kernel
theorem dX0_freeAt_17 : decode cX0_freeAt 17 = .ok (.iload_n 3, 1) := by decide +kernel
theorem dX0_freeAt_18 : decode cX0_freeAt 18 = .ok (.invokevirtual 43, 3) := by decide +kernel
theorem dX0_freeAt_21 : decode cX0_freeAt 21 = .ok (.isub, 1) := by decide +kernel
theorem dX0_freeAt_22 : decode cX0_freeAt 22 = .ok (.ireturn, 1) := by decide +kernel
theorem dX0_linesHold_0 : decode cX0_linesHold 0 = .ok (.aload_n 2, 1) := by decide +kernel
theorem dX0_linesHold_1 : decode cX0_linesHold 1 = .ok (.invokevirtual 46, 3) := by decide +kernel
theorem dX0_linesHold_4 : decode cX0_linesHold 4 = .ok (.istore 5, 2) := by decide +kernel
theorem dX0_linesHold_6 : decode cX0_linesHold 6 = .ok (.iconst 0, 1) := by decide +kernel
theorem dX0_linesHold_7 : decode cX0_linesHold 7 = .ok (.istore 6, 2) := by decide +kernel
theorem dX0_linesHold_9 : decode cX0_linesHold 9 = .ok (.iload 6, 2) := by decide +kernel
theorem dX0_linesHold_11 : decode cX0_linesHold 11 = .ok (.aload_n 0, 1) := by decide +kernel
theorem dX0_linesHold_12 : decode cX0_linesHold 12 = .ok (.getfield 24, 3) := by decide +kernel
theorem dX0_linesHold_15 : decode cX0_linesHold 15 = .ok (.if_icmp .ge 34, 3) := by decide +kernel
theorem dX0_linesHold_18 : decode cX0_linesHold 18 = .ok (.iload 4, 2) := by decide +kernel
theorem dX0_linesHold_20 : decode cX0_linesHold 20 = .ok (.iload 6, 2) := by decide +kernel
theorem dX0_linesHold_22 : decode cX0_linesHold 22 = .ok (.invokestatic 52, 3) := by decide +kernel
theorem dX0_linesHold_25 : decode cX0_linesHold 25 = .ok (.ifCond .eq 18, 3) := by decide +kernel
theorem dX0_linesHold_28 : decode cX0_linesHold 28 = .ok (.aload_n 0, 1) := by decide +kernel
theorem dX0_linesHold_29 : decode cX0_linesHold 29 = .ok (.aload_n 1, 1) := by decide +kernel
theorem dX0_linesHold_30 : decode cX0_linesHold 30 = .ok (.iload_n 3, 1) := by decide +kernel
theorem dX0_linesHold_31 : decode cX0_linesHold 31 = .ok (.iload 5, 2) := by decide +kernel
theorem dX0_linesHold_33 : decode cX0_linesHold 33 = .ok (.iload 6, 2) := by decide +kernel
theorem dX0_linesHold_35 : decode cX0_linesHold 35 = .ok (.invokevirtual 56, 3) := by decide +kernel
theorem dX0_linesHold_38 : decode cX0_linesHold 38 = .ok (.ifCond .ne 5, 3) := by decide +kernel
theorem dX0_linesHold_41 : decode cX0_linesHold 41 = .ok (.iconst 0, 1) := by decide +kernel
theorem dX0_linesHold_42 : decode cX0_linesHold 42 = .ok (.ireturn, 1) := by decide +kernel
theorem dX0_linesHold_43 : decode cX0_linesHold 43 = .ok (.iinc 6 1, 3) := by decide +kernel
theorem dX0_linesHold_46 : decode cX0_linesHold 46 = .ok (.goto (-37), 3) := by decide +kernel
theorem dX0_linesHold_49 : decode cX0_linesHold 49 = .ok (.iconst 1, 1) := by decide +kernel
theorem dX0_linesHold_50 : decode cX0_linesHold 50 = .ok (.ireturn, 1) := by decide +kernel
theorem dX0_hostHolds_0 : decode cX0_hostHolds 0 = .ok (.iload_n 3, 1) := by decide +kernel
theorem dX0_hostHolds_1 : decode cX0_hostHolds 1 = .ok (.invokestatic 60, 3) := by decide +kernel
theorem dX0_hostHolds_4 : decode cX0_hostHolds 4 = .ok (.istore 5, 2) := by decide +kernel
theorem dX0_hostHolds_6 : decode cX0_hostHolds 6 = .ok (.aload_n 1, 1) := by decide +kernel
theorem dX0_hostHolds_7 : decode cX0_hostHolds 7 = .ok (.iload 5, 2) := by decide +kernel
theorem dX0_hostHolds_9 : decode cX0_hostHolds 9 = .ok (.invokevirtual 64, 3) := by decide +kernel
theorem dX0_hostHolds_12 : decode cX0_hostHolds 12 = .ok (.aload_n 2, 1) := by decide +kernel
theorem dX0_hostHolds_13 : decode cX0_hostHolds 13 = .ok (.getfield 67, 3) := by decide +kernel
theorem dX0_hostHolds_16 : decode cX0_hostHolds 16 = .ok (.isub, 1) := by decide +kernel
theorem dX0_hostHolds_17 : decode cX0_hostHolds 17 = .ok (.istore 6, 2) := by decide +kernel
theorem dX0_hostHolds_19 : decode cX0_hostHolds 19 = .ok (.iconst 0, 1) := by decide +kernel
theorem dX0_hostHolds_20 : decode cX0_hostHolds 20 = .ok (.istore 7, 2) := by decide +kernel
theorem dX0_hostHolds_22 : decode cX0_hostHolds 22 = .ok (.iload 7, 2) := by decide +kernel
theorem dX0_hostHolds_24 : decode cX0_hostHolds 24 = .ok (.aload_n 0, 1) := by decide +kernel
theorem dX0_hostHolds_25 : decode cX0_hostHolds 25 = .ok (.getfield 24, 3) := by decide +kernel
theorem dX0_hostHolds_28 : decode cX0_hostHolds 28 = .ok (.if_icmp .ge 34, 3) := by decide +kernel
theorem dX0_hostHolds_31 : decode cX0_hostHolds 31 = .ok (.iload 4, 2) := by decide +kernel
theorem dX0_hostHolds_33 : decode cX0_hostHolds 33 = .ok (.iload 7, 2) := by decide +kernel
theorem dX0_hostHolds_35 : decode cX0_hostHolds 35 = .ok (.invokestatic 52, 3) := by decide +kernel
theorem dX0_hostHolds_38 : decode cX0_hostHolds 38 = .ok (.ifCond .eq 18, 3) := by decide +kernel
theorem dX0_hostHolds_41 : decode cX0_hostHolds 41 = .ok (.aload_n 0, 1) := by decide +kernel
theorem dX0_hostHolds_42 : decode cX0_hostHolds 42 = .ok (.iload 5, 2) := by decide +kernel
theorem dX0_hostHolds_44 : decode cX0_hostHolds 44 = .ok (.iload 7, 2) := by decide +kernel
theorem dX0_hostHolds_46 : decode cX0_hostHolds 46 = .ok (.invokevirtual 70, 3) := by decide +kernel
theorem dX0_hostHolds_49 : decode cX0_hostHolds 49 = .ok (.iload 6, 2) := by decide +kernel
theorem dX0_hostHolds_51 : decode cX0_hostHolds 51 = .ok (.if_icmp .le 5, 3) := by decide +kernel
theorem dX0_hostHolds_54 : decode cX0_hostHolds 54 = .ok (.iconst 0, 1) := by decide +kernel
theorem dX0_hostHolds_55 : decode cX0_hostHolds 55 = .ok (.ireturn, 1) := by decide +kernel
theorem dX0_hostHolds_56 : decode cX0_hostHolds 56 = .ok (.iinc 7 1, 3) := by decide +kernel
theorem dX0_hostHolds_59 : decode cX0_hostHolds 59 = .ok (.goto (-37), 3) := by decide +kernel
theorem dX0_hostHolds_62 : decode cX0_hostHolds 62 = .ok (.iconst 1, 1) := by decide +kernel
theorem dX0_hostHolds_63 : decode cX0_hostHolds 63 = .ok (.ireturn, 1) := by decide +kernel
theorem dX0_linesHoldAt_0 : decode cX0_linesHoldAt 0 = .ok (.iload_n 2, 1) := by decide +kernel
theorem dX0_linesHoldAt_1 : decode cX0_linesHoldAt 1 = .ok (.invokestatic 73, 3) := by decide +kernel
theorem dX0_linesHoldAt_4 : decode cX0_linesHoldAt 4 = .ok (.istore 5, 2) := by decide +kernel
theorem dX0_linesHoldAt_6 : decode cX0_linesHoldAt 6 = .ok (.iload_n 2, 1) := by decide +kernel
theorem dX0_linesHoldAt_7 : decode cX0_linesHoldAt 7 = .ok (.invokestatic 76, 3) := by decide +kernel
theorem dX0_linesHoldAt_10 : decode cX0_linesHoldAt 10 = .ok (.istore 6, 2) := by decide +kernel
theorem dX0_linesHoldAt_12 : decode cX0_linesHoldAt 12 = .ok (.iconst 0, 1) := by decide +kernel
theorem dX0_linesHoldAt_13 : decode cX0_linesHoldAt 13 = .ok (.istore 7, 2) := by decide +kernel
theorem dX0_linesHoldAt_15 : decode cX0_linesHoldAt 15 = .ok (.iload 7, 2) := by decide +kernel
theorem dX0_linesHoldAt_17 : decode cX0_linesHoldAt 17 = .ok (.aload_n 1, 1) := by decide +kernel
theorem dX0_linesHoldAt_18 : decode cX0_linesHoldAt 18 = .ok (.getfield 79, 3) := by decide +kernel
theorem dX0_linesHoldAt_21 : decode cX0_linesHoldAt 21 = .ok (.if_icmp .ge 84, 3) := by decide +kernel
theorem dX0_linesHoldAt_24 : decode cX0_linesHoldAt 24 = .ok (.aload_n 1, 1) := by decide +kernel
theorem dX0_linesHoldAt_25 : decode cX0_linesHoldAt 25 = .ok (.iload 7, 2) := by decide +kernel
theorem dX0_linesHoldAt_27 : decode cX0_linesHoldAt 27 = .ok (.invokevirtual 28, 3) := by decide +kernel
theorem dX0_linesHoldAt_30 : decode cX0_linesHoldAt 30 = .ok (.getfield 34, 3) := by decide +kernel
theorem dX0_linesHoldAt_33 : decode cX0_linesHoldAt 33 = .ok (.aload_n 0, 1) := by decide +kernel
theorem dX0_linesHoldAt_34 : decode cX0_linesHoldAt 34 = .ok (.iload 7, 2) := by decide +kernel
theorem dX0_linesHoldAt_36 : decode cX0_linesHoldAt 36 = .ok (.iload 4, 2) := by decide +kernel
theorem dX0_linesHoldAt_38 : decode cX0_linesHoldAt 38 = .ok (.invokevirtual 39, 3) := by decide +kernel
theorem dX0_linesHoldAt_41 : decode cX0_linesHoldAt 41 = .ok (.isub, 1) := by decide +kernel
theorem dX0_linesHoldAt_42 : decode cX0_linesHoldAt 42 = .ok (.istore 8, 2) := by decide +kernel
theorem dX0_linesHoldAt_44 : decode cX0_linesHoldAt 44 = .ok (.iload 5, 2) := by decide +kernel
theorem dX0_linesHoldAt_46 : decode cX0_linesHoldAt 46 = .ok (.iload 7, 2) := by decide +kernel
theorem dX0_linesHoldAt_48 : decode cX0_linesHoldAt 48 = .ok (.invokestatic 52, 3) := by decide +kernel
theorem dX0_linesHoldAt_51 : decode cX0_linesHoldAt 51 = .ok (.ifCond .eq 20, 3) := by decide +kernel
theorem dX0_linesHoldAt_54 : decode cX0_linesHoldAt 54 = .ok (.iload_n 3, 1) := by decide +kernel
theorem dX0_linesHoldAt_55 : decode cX0_linesHoldAt 55 = .ok (.aload_n 0, 1) := by decide +kernel
theorem dX0_linesHoldAt_56 : decode cX0_linesHoldAt 56 = .ok (.iload 7, 2) := by decide +kernel
theorem dX0_linesHoldAt_58 : decode cX0_linesHoldAt 58 = .ok (.iload 4, 2) := by decide +kernel
theorem dX0_linesHoldAt_60 : decode cX0_linesHoldAt 60 = .ok (.invokevirtual 43, 3) := by decide +kernel
theorem dX0_linesHoldAt_63 : decode cX0_linesHoldAt 63 = .ok (.iadd, 1) := by decide +kernel
theorem dX0_linesHoldAt_64 : decode cX0_linesHoldAt 64 = .ok (.iload 8, 2) := by decide +kernel
theorem dX0_linesHoldAt_66 : decode cX0_linesHoldAt 66 = .ok (.if_icmp .le 5, 3) := by decide +kernel
theorem dX0_linesHoldAt_69 : decode cX0_linesHoldAt 69 = .ok (.iconst 0, 1) := by decide +kernel
theorem dX0_linesHoldAt_70 : decode cX0_linesHoldAt 70 = .ok (.ireturn, 1) := by decide +kernel
theorem dX0_linesHoldAt_71 : decode cX0_linesHoldAt 71 = .ok (.iload 6, 2) := by decide +kernel
theorem dX0_linesHoldAt_73 : decode cX0_linesHoldAt 73 = .ok (.iload 7, 2) := by decide +kernel
theorem dX0_linesHoldAt_75 : decode cX0_linesHoldAt 75 = .ok (.invokestatic 52, 3) := by decide +kernel
theorem dX0_linesHoldAt_78 : decode cX0_linesHoldAt 78 = .ok (.ifCond .eq 21, 3) := by decide +kernel
theorem dX0_linesHoldAt_81 : decode cX0_linesHoldAt 81 = .ok (.aload_n 0, 1) := by decide +kernel
theorem dX0_linesHoldAt_82 : decode cX0_linesHoldAt 82 = .ok (.iload 7, 2) := by decide +kernel
theorem dX0_linesHoldAt_84 : decode cX0_linesHoldAt 84 = .ok (.iload 5, 2) := by decide +kernel
theorem dX0_linesHoldAt_86 : decode cX0_linesHoldAt 86 = .ok (.iload_n 3, 1) := by decide +kernel
theorem dX0_linesHoldAt_87 : decode cX0_linesHoldAt 87 = .ok (.iload 4, 2) := by decide +kernel
theorem dX0_linesHoldAt_89 : decode cX0_linesHoldAt 89 = .ok (.invokevirtual 82, 3) := by decide +kernel
theorem dX0_linesHoldAt_92 : decode cX0_linesHoldAt 92 = .ok (.iload 8, 2) := by decide +kernel
theorem dX0_linesHoldAt_94 : decode cX0_linesHoldAt 94 = .ok (.if_icmp .le 5, 3) := by decide +kernel
theorem dX0_linesHoldAt_97 : decode cX0_linesHoldAt 97 = .ok (.iconst 0, 1) := by decide +kernel
theorem dX0_linesHoldAt_98 : decode cX0_linesHoldAt 98 = .ok (.ireturn, 1) := by decide +kernel
theorem dX0_linesHoldAt_99 : decode cX0_linesHoldAt 99 = .ok (.iinc 7 1, 3) := by decide +kernel
theorem dX0_linesHoldAt_102 : decode cX0_linesHoldAt 102 = .ok (.goto (-87), 3) := by decide +kernel
theorem dX0_linesHoldAt_105 : decode cX0_linesHoldAt 105 = .ok (.iconst 1, 1) := by decide +kernel
theorem dX0_linesHoldAt_106 : decode cX0_linesHoldAt 106 = .ok (.ireturn, 1) := by decide +kernel
theorem dX0_fallWith_0 : decode cX0_fallWith 0 = .ok (.iload 4, 2) := by decide +kernel
theorem dX0_fallWith_2 : decode cX0_fallWith 2 = .ok (.bipush 9, 2) := by decide +kernel
theorem dX0_fallWith_4 : decode cX0_fallWith 4 = .ok (.imul, 1) := by decide +kernel
theorem dX0_fallWith_5 : decode cX0_fallWith 5 = .ok (.iload_n 1, 1) := by decide +kernel
theorem dX0_fallWith_6 : decode cX0_fallWith 6 = .ok (.iadd, 1) := by decide +kernel
theorem dX0_fallWith_7 : decode cX0_fallWith 7 = .ok (.istore 5, 2) := by decide +kernel
theorem dX0_fallWith_9 : decode cX0_fallWith 9 = .ok (.aload_n 0, 1) := by decide +kernel
theorem dX0_fallWith_10 : decode cX0_fallWith 10 = .ok (.getfield 15, 3) := by decide +kernel
theorem dX0_fallWith_13 : decode cX0_fallWith 13 = .ok (.iload 5, 2) := by decide +kernel
theorem dX0_fallWith_15 : decode cX0_fallWith 15 = .ok (.iaload, 1) := by decide +kernel
theorem dX0_fallWith_16 : decode cX0_fallWith 16 = .ok (.istore 6, 2) := by decide +kernel
theorem dX0_fallWith_18 : decode cX0_fallWith 18 = .ok (.iconst 0, 1) := by decide +kernel
theorem dX0_fallWith_19 : decode cX0_fallWith 19 = .ok (.istore 7, 2) := by decide +kernel
theorem dX0_fallWith_21 : decode cX0_fallWith 21 = .ok (.iload 7, 2) := by decide +kernel
theorem dX0_fallWith_23 : decode cX0_fallWith 23 = .ok (.bipush 9, 2) := by decide +kernel
theorem dX0_fallWith_25 : decode cX0_fallWith 25 = .ok (.if_icmp .ge 40, 3) := by decide +kernel
theorem dX0_fallWith_28 : decode cX0_fallWith 28 = .ok (.iload_n 2, 1) := by decide +kernel
theorem dX0_fallWith_29 : decode cX0_fallWith 29 = .ok (.iload 7, 2) := by decide +kernel
theorem dX0_fallWith_31 : decode cX0_fallWith 31 = .ok (.invokestatic 52, 3) := by decide +kernel
theorem dX0_fallWith_34 : decode cX0_fallWith 34 = .ok (.ifCond .eq 25, 3) := by decide +kernel
theorem dX0_fallWith_37 : decode cX0_fallWith 37 = .ok (.iload 6, 2) := by decide +kernel
theorem dX0_fallWith_39 : decode cX0_fallWith 39 = .ok (.aload_n 0, 1) := by decide +kernel
theorem dX0_fallWith_40 : decode cX0_fallWith 40 = .ok (.getfield 18, 3) := by decide +kernel
theorem dX0_fallWith_43 : decode cX0_fallWith 43 = .ok (.iload 5, 2) := by decide +kernel
theorem dX0_fallWith_45 : decode cX0_fallWith 45 = .ok (.bipush 9, 2) := by decide +kernel
theorem dX0_fallWith_47 : decode cX0_fallWith 47 = .ok (.imul, 1) := by decide +kernel
theorem dX0_fallWith_48 : decode cX0_fallWith 48 = .ok (.iload 7, 2) := by decide +kernel
theorem dX0_fallWith_50 : decode cX0_fallWith 50 = .ok (.iadd, 1) := by decide +kernel
theorem dX0_fallWith_51 : decode cX0_fallWith 51 = .ok (.iaload, 1) := by decide +kernel
theorem dX0_fallWith_52 : decode cX0_fallWith 52 = .ok (.iload_n 3, 1) := by decide +kernel
theorem dX0_fallWith_53 : decode cX0_fallWith 53 = .ok (.iadd, 1) := by decide +kernel
theorem dX0_fallWith_54 : decode cX0_fallWith 54 = .ok (.invokestatic 86, 3) := by decide +kernel
theorem dX0_fallWith_57 : decode cX0_fallWith 57 = .ok (.istore 6, 2) := by decide +kernel
theorem dX0_fallWith_59 : decode cX0_fallWith 59 = .ok (.iinc 7 1, 3) := by decide +kernel
theorem dX0_fallWith_62 : decode cX0_fallWith 62 = .ok (.goto (-41), 3) := by decide +kernel
theorem dX0_fallWith_65 : decode cX0_fallWith 65 = .ok (.iload 6, 2) := by decide +kernel
theorem dX0_fallWith_67 : decode cX0_fallWith 67 = .ok (.ireturn, 1) := by decide +kernel
theorem dX0_enter_0 : decode cX0_enter 0 = .ok (.aload_n 2, 1) := by decide +kernel
theorem dX0_enter_1 : decode cX0_enter 1 = .ok (.invokevirtual 46, 3) := by decide +kernel
theorem dX0_enter_4 : decode cX0_enter 4 = .ok (.iload 5, 2) := by decide +kernel
theorem dX0_enter_6 : decode cX0_enter 6 = .ok (.imul, 1) := by decide +kernel
theorem dX0_enter_7 : decode cX0_enter 7 = .ok (.istore 6, 2) := by decide +kernel
theorem dX0_enter_9 : decode cX0_enter 9 = .ok (.iload_n 3, 1) := by decide +kernel
theorem dX0_enter_10 : decode cX0_enter 10 = .ok (.invokestatic 60, 3) := by decide +kernel
theorem dX0_enter_13 : decode cX0_enter 13 = .ok (.istore 7, 2) := by decide +kernel
theorem dX0_enter_15 : decode cX0_enter 15 = .ok (.iconst 0, 1) := by decide +kernel
theorem dX0_enter_16 : decode cX0_enter 16 = .ok (.istore 8, 2) := by decide +kernel
theorem dX0_enter_18 : decode cX0_enter 18 = .ok (.iload 8, 2) := by decide +kernel
theorem dX0_enter_20 : decode cX0_enter 20 = .ok (.aload_n 0, 1) := by decide +kernel
theorem dX0_enter_21 : decode cX0_enter 21 = .ok (.getfield 24, 3) := by decide +kernel
theorem dX0_enter_24 : decode cX0_enter 24 = .ok (.if_icmp .ge 52, 3) := by decide +kernel
theorem dX0_enter_27 : decode cX0_enter 27 = .ok (.iload 4, 2) := by decide +kernel
theorem dX0_enter_29 : decode cX0_enter 29 = .ok (.iload 8, 2) := by decide +kernel
theorem dX0_enter_31 : decode cX0_enter 31 = .ok (.invokestatic 52, 3) := by decide +kernel
theorem dX0_enter_34 : decode cX0_enter 34 = .ok (.ifCond .eq 36, 3) := by decide +kernel
theorem dX0_enter_37 : decode cX0_enter 37 = .ok (.aload_n 0, 1) := by decide +kernel
theorem dX0_enter_38 : decode cX0_enter 38 = .ok (.aload_n 1, 1) := by decide +kernel
theorem dX0_enter_39 : decode cX0_enter 39 = .ok (.iload_n 3, 1) := by decide +kernel
theorem dX0_enter_40 : decode cX0_enter 40 = .ok (.iload 6, 2) := by decide +kernel
theorem dX0_enter_42 : decode cX0_enter 42 = .ok (.iload 8, 2) := by decide +kernel
theorem dX0_enter_44 : decode cX0_enter 44 = .ok (.invokevirtual 91, 3) := by decide +kernel
theorem dX0_enter_47 : decode cX0_enter 47 = .ok (.aload_n 0, 1) := by decide +kernel
theorem dX0_enter_48 : decode cX0_enter 48 = .ok (.getfield 21, 3) := by decide +kernel
theorem dX0_enter_51 : decode cX0_enter 51 = .ok (.iload 8, 2) := by decide +kernel
theorem dX0_enter_53 : decode cX0_enter 53 = .ok (.bipush 6, 2) := by decide +kernel
theorem dX0_enter_55 : decode cX0_enter 55 = .ok (.imul, 1) := by decide +kernel
theorem dX0_enter_56 : decode cX0_enter 56 = .ok (.iload 7, 2) := by decide +kernel
theorem dX0_enter_58 : decode cX0_enter 58 = .ok (.iadd, 1) := by decide +kernel
theorem dX0_enter_59 : decode cX0_enter 59 = .ok (.dup2, 1) := by decide +kernel
theorem dX0_enter_60 : decode cX0_enter 60 = .ok (.iaload, 1) := by decide +kernel
theorem dX0_enter_61 : decode cX0_enter 61 = .ok (.aload_n 2, 1) := by decide +kernel
theorem dX0_enter_62 : decode cX0_enter 62 = .ok (.getfield 67, 3) := by decide +kernel
theorem dX0_enter_65 : decode cX0_enter 65 = .ok (.iload 5, 2) := by decide +kernel
theorem dX0_enter_67 : decode cX0_enter 67 = .ok (.imul, 1) := by decide +kernel
theorem dX0_enter_68 : decode cX0_enter 68 = .ok (.iadd, 1) := by decide +kernel
theorem dX0_enter_69 : decode cX0_enter 69 = .ok (.iastore, 1) := by decide +kernel
theorem dX0_enter_70 : decode cX0_enter 70 = .ok (.iinc 8 1, 3) := by decide +kernel
theorem dX0_enter_73 : decode cX0_enter 73 = .ok (.goto (-55), 3) := by decide +kernel
theorem dX0_enter_76 : decode cX0_enter 76 = .ok (.return_, 1) := by decide +kernel
theorem dX0_enterLines_0 : decode cX0_enterLines 0 = .ok (.iload_n 2, 1) := by decide +kernel
theorem dX0_enterLines_1 : decode cX0_enterLines 1 = .ok (.invokestatic 73, 3) := by decide +kernel
theorem dX0_enterLines_4 : decode cX0_enterLines 4 = .ok (.istore 5, 2) := by decide +kernel
theorem dX0_enterLines_6 : decode cX0_enterLines 6 = .ok (.iload_n 2, 1) := by decide +kernel
theorem dX0_enterLines_7 : decode cX0_enterLines 7 = .ok (.invokestatic 76, 3) := by decide +kernel
theorem dX0_enterLines_10 : decode cX0_enterLines 10 = .ok (.istore 6, 2) := by decide +kernel
theorem dX0_enterLines_12 : decode cX0_enterLines 12 = .ok (.iconst 0, 1) := by decide +kernel
theorem dX0_enterLines_13 : decode cX0_enterLines 13 = .ok (.istore 7, 2) := by decide +kernel
theorem dX0_enterLines_15 : decode cX0_enterLines 15 = .ok (.iload 7, 2) := by decide +kernel
theorem dX0_enterLines_17 : decode cX0_enterLines 17 = .ok (.aload_n 1, 1) := by decide +kernel
theorem dX0_enterLines_18 : decode cX0_enterLines 18 = .ok (.getfield 79, 3) := by decide +kernel
theorem dX0_enterLines_21 : decode cX0_enterLines 21 = .ok (.if_icmp .ge 57, 3) := by decide +kernel
theorem dX0_enterLines_24 : decode cX0_enterLines 24 = .ok (.iload 5, 2) := by decide +kernel
theorem dX0_enterLines_26 : decode cX0_enterLines 26 = .ok (.iload 7, 2) := by decide +kernel
theorem dX0_enterLines_28 : decode cX0_enterLines 28 = .ok (.invokestatic 52, 3) := by decide +kernel
theorem dX0_enterLines_31 : decode cX0_enterLines 31 = .ok (.ifCond .eq 20, 3) := by decide +kernel
theorem dX0_enterLines_34 : decode cX0_enterLines 34 = .ok (.aload_n 0, 1) := by decide +kernel
theorem dX0_enterLines_35 : decode cX0_enterLines 35 = .ok (.getfield 9, 3) := by decide +kernel
theorem dX0_enterLines_38 : decode cX0_enterLines 38 = .ok (.iload 4, 2) := by decide +kernel
theorem dX0_enterLines_40 : decode cX0_enterLines 40 = .ok (.bipush 9, 2) := by decide +kernel
theorem dX0_enterLines_42 : decode cX0_enterLines 42 = .ok (.imul, 1) := by decide +kernel
theorem dX0_enterLines_43 : decode cX0_enterLines 43 = .ok (.iload 7, 2) := by decide +kernel
theorem dX0_enterLines_45 : decode cX0_enterLines 45 = .ok (.iadd, 1) := by decide +kernel
theorem dX0_enterLines_46 : decode cX0_enterLines 46 = .ok (.dup2, 1) := by decide +kernel
theorem dX0_enterLines_47 : decode cX0_enterLines 47 = .ok (.iaload, 1) := by decide +kernel
theorem dX0_enterLines_48 : decode cX0_enterLines 48 = .ok (.iload_n 3, 1) := by decide +kernel
theorem dX0_enterLines_49 : decode cX0_enterLines 49 = .ok (.iadd, 1) := by decide +kernel
theorem dX0_enterLines_50 : decode cX0_enterLines 50 = .ok (.iastore, 1) := by decide +kernel
theorem dX0_enterLines_51 : decode cX0_enterLines 51 = .ok (.iload 6, 2) := by decide +kernel
theorem dX0_enterLines_53 : decode cX0_enterLines 53 = .ok (.iload 7, 2) := by decide +kernel
theorem dX0_enterLines_55 : decode cX0_enterLines 55 = .ok (.invokestatic 52, 3) := by decide +kernel
theorem dX0_enterLines_58 : decode cX0_enterLines 58 = .ok (.ifCond .eq 14, 3) := by decide +kernel
theorem dX0_enterLines_61 : decode cX0_enterLines 61 = .ok (.aload_n 0, 1) := by decide +kernel
theorem dX0_enterLines_62 : decode cX0_enterLines 62 = .ok (.iload 7, 2) := by decide +kernel
theorem dX0_enterLines_64 : decode cX0_enterLines 64 = .ok (.iload 5, 2) := by decide +kernel
theorem dX0_enterLines_66 : decode cX0_enterLines 66 = .ok (.iload_n 3, 1) := by decide +kernel
theorem dX0_enterLines_67 : decode cX0_enterLines 67 = .ok (.iload 4, 2) := by decide +kernel
theorem dX0_enterLines_69 : decode cX0_enterLines 69 = .ok (.invokevirtual 95, 3) := by decide +kernel
theorem dX0_enterLines_72 : decode cX0_enterLines 72 = .ok (.iinc 7 1, 3) := by decide +kernel
theorem dX0_enterLines_75 : decode cX0_enterLines 75 = .ok (.goto (-60), 3) := by decide +kernel
theorem dX0_enterLines_78 : decode cX0_enterLines 78 = .ok (.return_, 1) := by decide +kernel
theorem dX0_enterFalls_0 : decode cX0_enterFalls 0 = .ok (.iload 4, 2) := by decide +kernel
theorem dX0_enterFalls_2 : decode cX0_enterFalls 2 = .ok (.bipush 9, 2) := by decide +kernel
theorem dX0_enterFalls_4 : decode cX0_enterFalls 4 = .ok (.imul, 1) := by decide +kernel
theorem dX0_enterFalls_5 : decode cX0_enterFalls 5 = .ok (.iload_n 1, 1) := by decide +kernel
theorem dX0_enterFalls_6 : decode cX0_enterFalls 6 = .ok (.iadd, 1) := by decide +kernel
theorem dX0_enterFalls_7 : decode cX0_enterFalls 7 = .ok (.istore 5, 2) := by decide +kernel
theorem dX0_enterFalls_9 : decode cX0_enterFalls 9 = .ok (.iconst 0, 1) := by decide +kernel
theorem dX0_enterFalls_10 : decode cX0_enterFalls 10 = .ok (.istore 6, 2) := by decide +kernel
theorem dX0_enterFalls_12 : decode cX0_enterFalls 12 = .ok (.iconst 0, 1) := by decide +kernel
theorem dX0_enterFalls_13 : decode cX0_enterFalls 13 = .ok (.istore 7, 2) := by decide +kernel
theorem dX0_enterFalls_15 : decode cX0_enterFalls 15 = .ok (.iload 7, 2) := by decide +kernel
theorem dX0_enterFalls_17 : decode cX0_enterFalls 17 = .ok (.bipush 9, 2) := by decide +kernel
theorem dX0_enterFalls_19 : decode cX0_enterFalls 19 = .ok (.if_icmp .ge 55, 3) := by decide +kernel
theorem dX0_enterFalls_22 : decode cX0_enterFalls 22 = .ok (.iload_n 2, 1) := by decide +kernel
theorem dX0_enterFalls_23 : decode cX0_enterFalls 23 = .ok (.iload 7, 2) := by decide +kernel
theorem dX0_enterFalls_25 : decode cX0_enterFalls 25 = .ok (.invokestatic 52, 3) := by decide +kernel
theorem dX0_enterFalls_28 : decode cX0_enterFalls 28 = .ok (.ifCond .eq 20, 3) := by decide +kernel
theorem dX0_enterFalls_31 : decode cX0_enterFalls 31 = .ok (.aload_n 0, 1) := by decide +kernel
theorem dX0_enterFalls_32 : decode cX0_enterFalls 32 = .ok (.getfield 18, 3) := by decide +kernel
theorem dX0_enterFalls_35 : decode cX0_enterFalls 35 = .ok (.iload 5, 2) := by decide +kernel
theorem dX0_enterFalls_37 : decode cX0_enterFalls 37 = .ok (.bipush 9, 2) := by decide +kernel
theorem dX0_enterFalls_39 : decode cX0_enterFalls 39 = .ok (.imul, 1) := by decide +kernel
theorem dX0_enterFalls_40 : decode cX0_enterFalls 40 = .ok (.iload 7, 2) := by decide +kernel
theorem dX0_enterFalls_42 : decode cX0_enterFalls 42 = .ok (.iadd, 1) := by decide +kernel
theorem dX0_enterFalls_43 : decode cX0_enterFalls 43 = .ok (.dup2, 1) := by decide +kernel
theorem dX0_enterFalls_44 : decode cX0_enterFalls 44 = .ok (.iaload, 1) := by decide +kernel
theorem dX0_enterFalls_45 : decode cX0_enterFalls 45 = .ok (.iload_n 3, 1) := by decide +kernel
theorem dX0_enterFalls_46 : decode cX0_enterFalls 46 = .ok (.iadd, 1) := by decide +kernel
theorem dX0_enterFalls_47 : decode cX0_enterFalls 47 = .ok (.iastore, 1) := by decide +kernel
theorem dX0_enterFalls_48 : decode cX0_enterFalls 48 = .ok (.iload 6, 2) := by decide +kernel
theorem dX0_enterFalls_50 : decode cX0_enterFalls 50 = .ok (.aload_n 0, 1) := by decide +kernel
theorem dX0_enterFalls_51 : decode cX0_enterFalls 51 = .ok (.getfield 18, 3) := by decide +kernel
theorem dX0_enterFalls_54 : decode cX0_enterFalls 54 = .ok (.iload 5, 2) := by decide +kernel
theorem dX0_enterFalls_56 : decode cX0_enterFalls 56 = .ok (.bipush 9, 2) := by decide +kernel
theorem dX0_enterFalls_58 : decode cX0_enterFalls 58 = .ok (.imul, 1) := by decide +kernel
theorem dX0_enterFalls_59 : decode cX0_enterFalls 59 = .ok (.iload 7, 2) := by decide +kernel
theorem dX0_enterFalls_61 : decode cX0_enterFalls 61 = .ok (.iadd, 1) := by decide +kernel
theorem dX0_enterFalls_62 : decode cX0_enterFalls 62 = .ok (.iaload, 1) := by decide +kernel
theorem dX0_enterFalls_63 : decode cX0_enterFalls 63 = .ok (.invokestatic 86, 3) := by decide +kernel
theorem dX0_enterFalls_66 : decode cX0_enterFalls 66 = .ok (.istore 6, 2) := by decide +kernel
theorem dX0_enterFalls_68 : decode cX0_enterFalls 68 = .ok (.iinc 7 1, 3) := by decide +kernel
theorem dX0_enterFalls_71 : decode cX0_enterFalls 71 = .ok (.goto (-56), 3) := by decide +kernel
theorem dX0_enterFalls_74 : decode cX0_enterFalls 74 = .ok (.aload_n 0, 1) := by decide +kernel
theorem dX0_enterFalls_75 : decode cX0_enterFalls 75 = .ok (.getfield 15, 3) := by decide +kernel
theorem dX0_enterFalls_78 : decode cX0_enterFalls 78 = .ok (.iload 5, 2) := by decide +kernel
theorem dX0_enterFalls_80 : decode cX0_enterFalls 80 = .ok (.iload 6, 2) := by decide +kernel
theorem dX0_enterFalls_82 : decode cX0_enterFalls 82 = .ok (.iastore, 1) := by decide +kernel
theorem dX0_enterFalls_83 : decode cX0_enterFalls 83 = .ok (.return_, 1) := by decide +kernel
theorem dX1_init_0 : decode cX1_init 0 = .ok (.aload_n 0, 1) := by decide +kernel
theorem dX1_init_1 : decode cX1_init 1 = .ok (.invokespecial 3, 3) := by decide +kernel
theorem dX1_init_4 : decode cX1_init 4 = .ok (.aload_n 0, 1) := by decide +kernel
theorem dX1_init_5 : decode cX1_init 5 = .ok (.bipush 9, 2) := by decide +kernel
theorem dX1_init_7 : decode cX1_init 7 = .ok (.newarray .int, 2) := by decide +kernel
theorem dX1_init_9 : decode cX1_init 9 = .ok (.putfield 9, 3) := by decide +kernel
theorem dX1_init_12 : decode cX1_init 12 = .ok (.return_, 1) := by decide +kernel
theorem dX1_find_0 : decode cX1_find 0 = .ok (.iconst 0, 1) := by decide +kernel
theorem dX1_find_1 : decode cX1_find 1 = .ok (.istore 6, 2) := by decide +kernel
theorem dX1_find_3 : decode cX1_find 3 = .ok (.iload 6, 2) := by decide +kernel
theorem dX1_find_5 : decode cX1_find 5 = .ok (.aload_n 1, 1) := by decide +kernel
theorem dX1_find_6 : decode cX1_find 6 = .ok (.getfield 15, 3) := by decide +kernel
theorem dX1_find_9 : decode cX1_find 9 = .ok (.if_icmp .ge 40, 3) := by decide +kernel
theorem dX1_find_12 : decode cX1_find 12 = .ok (.aload_n 0, 1) := by decide +kernel
theorem dX1_find_13 : decode cX1_find 13 = .ok (.getfield 9, 3) := by decide +kernel
theorem dX1_find_16 : decode cX1_find 16 = .ok (.iload 6, 2) := by decide +kernel
theorem dX1_find_18 : decode cX1_find 18 = .ok (.aload_n 1, 1) := by decide +kernel
theorem dX1_find_19 : decode cX1_find 19 = .ok (.iconst 1, 1) := by decide +kernel
theorem dX1_find_20 : decode cX1_find 20 = .ok (.iload 6, 2) := by decide +kernel
theorem dX1_find_22 : decode cX1_find 22 = .ok (.ishl, 1) := by decide +kernel
theorem dX1_find_23 : decode cX1_find 23 = .ok (.invokevirtual 21, 3) := by decide +kernel
theorem dX1_find_26 : decode cX1_find 26 = .ok (.ifCond .eq 15, 3) := by decide +kernel
theorem dX1_find_29 : decode cX1_find 29 = .ok (.aload_n 2, 1) := by decide +kernel
theorem dX1_find_30 : decode cX1_find 30 = .ok (.aload_n 1, 1) := by decide +kernel
theorem dX1_find_31 : decode cX1_find 31 = .ok (.iload 6, 2) := by decide +kernel
theorem dX1_find_33 : decode cX1_find 33 = .ok (.iload 5, 2) := by decide +kernel
theorem dX1_find_35 : decode cX1_find 35 = .ok (.invokevirtual 25, 3) := by decide +kernel
theorem dX1_find_38 : decode cX1_find 38 = .ok (.goto 4, 3) := by decide +kernel
theorem dX1_find_41 : decode cX1_find 41 = .ok (.iconst 0, 1) := by decide +kernel
theorem dX1_find_42 : decode cX1_find 42 = .ok (.iastore, 1) := by decide +kernel
theorem dX1_find_43 : decode cX1_find 43 = .ok (.iinc 6 1, 3) := by decide +kernel
theorem dX1_find_46 : decode cX1_find 46 = .ok (.goto (-43), 3) := by decide +kernel
theorem dX1_find_49 : decode cX1_find 49 = .ok (.aload_n 0, 1) := by decide +kernel
theorem dX1_find_50 : decode cX1_find 50 = .ok (.iconst 0, 1) := by decide +kernel
theorem dX1_find_51 : decode cX1_find 51 = .ok (.putfield 31, 3) := by decide +kernel
theorem dX1_find_54 : decode cX1_find 54 = .ok (.iconst 0, 1) := by decide +kernel
theorem dX1_find_55 : decode cX1_find 55 = .ok (.istore 6, 2) := by decide +kernel
theorem dX1_find_57 : decode cX1_find 57 = .ok (.iload 6, 2) := by decide +kernel
theorem dX1_find_59 : decode cX1_find 59 = .ok (.iconst 1, 1) := by decide +kernel
theorem dX1_find_60 : decode cX1_find 60 = .ok (.aload_n 1, 1) := by decide +kernel
theorem dX1_find_61 : decode cX1_find 61 = .ok (.getfield 34, 3) := by decide +kernel
theorem dX1_find_64 : decode cX1_find 64 = .ok (.ishl, 1) := by decide +kernel
theorem dX1_find_65 : decode cX1_find 65 = .ok (.if_icmp .ge 41, 3) := by decide +kernel
theorem dX1_find_68 : decode cX1_find 68 = .ok (.iload 6, 2) := by decide +kernel
theorem dX1_find_70 : decode cX1_find 70 = .ok (.iload_n 3, 1) := by decide +kernel
theorem dX1_find_71 : decode cX1_find 71 = .ok (.invokestatic 37, 3) := by decide +kernel
theorem dX1_find_74 : decode cX1_find 74 = .ok (.ifCond .eq 26, 3) := by decide +kernel
theorem dX1_find_77 : decode cX1_find 77 = .ok (.iload 6, 2) := by decide +kernel
theorem dX1_find_79 : decode cX1_find 79 = .ok (.iload 4, 2) := by decide +kernel
theorem dX1_find_81 : decode cX1_find 81 = .ok (.invokestatic 37, 3) := by decide +kernel
theorem dX1_find_84 : decode cX1_find 84 = .ok (.ifCond .ne 16, 3) := by decide +kernel
theorem dX1_find_87 : decode cX1_find 87 = .ok (.aload_n 0, 1) := by decide +kernel
theorem dX1_find_88 : decode cX1_find 88 = .ok (.iload 6, 2) := by decide +kernel
theorem dX1_find_90 : decode cX1_find 90 = .ok (.aload_n 0, 1) := by decide +kernel
theorem dX1_find_91 : decode cX1_find 91 = .ok (.aload_n 1, 1) := by decide +kernel
theorem dX1_find_92 : decode cX1_find 92 = .ok (.iload 6, 2) := by decide +kernel
theorem dX1_find_94 : decode cX1_find 94 = .ok (.invokevirtual 41, 3) := by decide +kernel
theorem dX1_find_97 : decode cX1_find 97 = .ok (.invokevirtual 45, 3) := by decide +kernel
theorem dX1_find_100 : decode cX1_find 100 = .ok (.iinc 6 1, 3) := by decide +kernel
theorem dX1_find_103 : decode cX1_find 103 = .ok (.goto (-46), 3) := by decide +kernel
theorem dX1_find_106 : decode cX1_find 106 = .ok (.return_, 1) := by decide +kernel
theorem dX1_roomOutOf_0 : decode cX1_roomOutOf 0 = .ok (.iconst 0, 1) := by decide +kernel
theorem dX1_roomOutOf_1 : decode cX1_roomOutOf 1 = .ok (.istore_n 3, 1) := by decide +kernel
theorem dX1_roomOutOf_2 : decode cX1_roomOutOf 2 = .ok (.iconst 0, 1) := by decide +kernel
theorem dX1_roomOutOf_3 : decode cX1_roomOutOf 3 = .ok (.istore 4, 2) := by decide +kernel
theorem dX1_roomOutOf_5 : decode cX1_roomOutOf 5 = .ok (.iload 4, 2) := by decide +kernel
theorem dX1_roomOutOf_7 : decode cX1_roomOutOf 7 = .ok (.aload_n 1, 1) := by decide +kernel
theorem dX1_roomOutOf_8 : decode cX1_roomOutOf 8 = .ok (.getfield 15, 3) := by decide +kernel
theorem dX1_roomOutOf_11 : decode cX1_roomOutOf 11 = .ok (.if_icmp .ge 48, 3) := by decide +kernel
theorem dX1_roomOutOf_14 : decode cX1_roomOutOf 14 = .ok (.iload_n 2, 1) := by decide +kernel
theorem dX1_roomOutOf_15 : decode cX1_roomOutOf 15 = .ok (.aload_n 1, 1) := by decide +kernel
theorem dX1_roomOutOf_16 : decode cX1_roomOutOf 16 = .ok (.iload 4, 2) := by decide +kernel
theorem dX1_roomOutOf_18 : decode cX1_roomOutOf 18 = .ok (.invokevirtual 49, 3) := by decide +kernel
theorem dX1_roomOutOf_21 : decode cX1_roomOutOf 21 = .ok (.getfield 53, 3) := by decide +kernel
theorem dX1_roomOutOf_24 : decode cX1_roomOutOf 24 = .ok (.invokestatic 37, 3) := by decide +kernel
theorem dX1_roomOutOf_27 : decode cX1_roomOutOf 27 = .ok (.iload_n 2, 1) := by decide +kernel
theorem dX1_roomOutOf_28 : decode cX1_roomOutOf 28 = .ok (.aload_n 1, 1) := by decide +kernel
theorem dX1_roomOutOf_29 : decode cX1_roomOutOf 29 = .ok (.iload 4, 2) := by decide +kernel
theorem dX1_roomOutOf_31 : decode cX1_roomOutOf 31 = .ok (.invokevirtual 49, 3) := by decide +kernel
theorem dX1_roomOutOf_34 : decode cX1_roomOutOf 34 = .ok (.getfield 58, 3) := by decide +kernel
theorem dX1_roomOutOf_37 : decode cX1_roomOutOf 37 = .ok (.invokestatic 37, 3) := by decide +kernel
theorem dX1_roomOutOf_40 : decode cX1_roomOutOf 40 = .ok (.if_icmp .eq 13, 3) := by decide +kernel
theorem dX1_roomOutOf_43 : decode cX1_roomOutOf 43 = .ok (.iload_n 3, 1) := by decide +kernel
theorem dX1_roomOutOf_44 : decode cX1_roomOutOf 44 = .ok (.aload_n 0, 1) := by decide +kernel
theorem dX1_roomOutOf_45 : decode cX1_roomOutOf 45 = .ok (.getfield 9, 3) := by decide +kernel
theorem dX1_roomOutOf_48 : decode cX1_roomOutOf 48 = .ok (.iload 4, 2) := by decide +kernel
theorem dX1_roomOutOf_50 : decode cX1_roomOutOf 50 = .ok (.iaload, 1) := by decide +kernel
theorem dX1_roomOutOf_51 : decode cX1_roomOutOf 51 = .ok (.iadd, 1) := by decide +kernel
theorem dX1_roomOutOf_52 : decode cX1_roomOutOf 52 = .ok (.istore_n 3, 1) := by decide +kernel
theorem dX1_roomOutOf_53 : decode cX1_roomOutOf 53 = .ok (.iinc 4 1, 3) := by decide +kernel
theorem dX1_roomOutOf_56 : decode cX1_roomOutOf 56 = .ok (.goto (-51), 3) := by decide +kernel
theorem dX1_roomOutOf_59 : decode cX1_roomOutOf 59 = .ok (.iload_n 3, 1) := by decide +kernel
theorem dX1_roomOutOf_60 : decode cX1_roomOutOf 60 = .ok (.ireturn, 1) := by decide +kernel
theorem dX1_weigh_0 : decode cX1_weigh 0 = .ok (.aload_n 0, 1) := by decide +kernel
theorem dX1_weigh_1 : decode cX1_weigh 1 = .ok (.getfield 31, 3) := by decide +kernel
theorem dX1_weigh_4 : decode cX1_weigh 4 = .ok (.ifCond .eq 33, 3) := by decide +kernel
theorem dX1_weigh_7 : decode cX1_weigh 7 = .ok (.iload_n 2, 1) := by decide +kernel
theorem dX1_weigh_8 : decode cX1_weigh 8 = .ok (.aload_n 0, 1) := by decide +kernel
theorem dX1_weigh_9 : decode cX1_weigh 9 = .ok (.getfield 61, 3) := by decide +kernel
theorem dX1_weigh_12 : decode cX1_weigh 12 = .ok (.if_icmp .lt 25, 3) := by decide +kernel
theorem dX1_weigh_15 : decode cX1_weigh 15 = .ok (.iload_n 2, 1) := by decide +kernel
theorem dX1_weigh_16 : decode cX1_weigh 16 = .ok (.aload_n 0, 1) := by decide +kernel
theorem dX1_weigh_17 : decode cX1_weigh 17 = .ok (.getfield 61, 3) := by decide +kernel
theorem dX1_weigh_20 : decode cX1_weigh 20 = .ok (.if_icmp .ne 21, 3) := by decide +kernel
theorem dX1_weigh_23 : decode cX1_weigh 23 = .ok (.iload_n 1, 1) := by decide +kernel
theorem dX1_weigh_24 : decode cX1_weigh 24 = .ok (.invokestatic 64, 3) := by decide +kernel
theorem dX1_weigh_27 : decode cX1_weigh 27 = .ok (.aload_n 0, 1) := by decide +kernel
theorem dX1_weigh_28 : decode cX1_weigh 28 = .ok (.getfield 31, 3) := by decide +kernel
theorem dX1_weigh_31 : decode cX1_weigh 31 = .ok (.invokestatic 64, 3) := by decide +kernel
theorem dX1_weigh_34 : decode cX1_weigh 34 = .ok (.if_icmp .ge 7, 3) := by decide +kernel
theorem dX1_weigh_37 : decode cX1_weigh 37 = .ok (.iconst 1, 1) := by decide +kernel
theorem dX1_weigh_38 : decode cX1_weigh 38 = .ok (.goto 4, 3) := by decide +kernel
theorem dX1_weigh_41 : decode cX1_weigh 41 = .ok (.iconst 0, 1) := by decide +kernel
theorem dX1_weigh_42 : decode cX1_weigh 42 = .ok (.istore_n 3, 1) := by decide +kernel
theorem dX1_weigh_43 : decode cX1_weigh 43 = .ok (.iload_n 3, 1) := by decide +kernel
theorem dX1_weigh_44 : decode cX1_weigh 44 = .ok (.ifCond .eq 13, 3) := by decide +kernel
theorem dX1_weigh_47 : decode cX1_weigh 47 = .ok (.aload_n 0, 1) := by decide +kernel
theorem dX1_weigh_48 : decode cX1_weigh 48 = .ok (.iload_n 1, 1) := by decide +kernel
theorem dX1_weigh_49 : decode cX1_weigh 49 = .ok (.putfield 31, 3) := by decide +kernel
theorem dX1_weigh_52 : decode cX1_weigh 52 = .ok (.aload_n 0, 1) := by decide +kernel
theorem dX1_weigh_53 : decode cX1_weigh 53 = .ok (.iload_n 2, 1) := by decide +kernel
theorem dX1_weigh_54 : decode cX1_weigh 54 = .ok (.putfield 61, 3) := by decide +kernel
theorem dX1_weigh_57 : decode cX1_weigh 57 = .ok (.return_, 1) := by decide +kernel
theorem dX2_init_0 : decode cX2_init 0 = .ok (.aload_n 0, 1) := by decide +kernel
theorem dX2_init_1 : decode cX2_init 1 = .ok (.invokespecial 3, 3) := by decide +kernel
theorem dX2_init_4 : decode cX2_init 4 = .ok (.aload_n 0, 1) := by decide +kernel
theorem dX2_init_5 : decode cX2_init 5 = .ok (.iconst (-1), 1) := by decide +kernel
theorem dX2_init_6 : decode cX2_init 6 = .ok (.putfield 9, 3) := by decide +kernel
theorem dX2_init_9 : decode cX2_init 9 = .ok (.aload_n 0, 1) := by decide +kernel
theorem dX2_init_10 : decode cX2_init 10 = .ok (.aload_n 1, 1) := by decide +kernel
theorem dX2_init_11 : decode cX2_init 11 = .ok (.putfield 15, 3) := by decide +kernel
theorem dX2_init_14 : decode cX2_init 14 = .ok (.aload_n 0, 1) := by decide +kernel
theorem dX2_init_15 : decode cX2_init 15 = .ok (.aload_n 2, 1) := by decide +kernel
theorem dX2_init_16 : decode cX2_init 16 = .ok (.putfield 19, 3) := by decide +kernel
theorem dX2_init_19 : decode cX2_init 19 = .ok (.return_, 1) := by decide +kernel
theorem dX2_doTick_0 : decode cX2_doTick 0 = .ok (.aload_n 0, 1) := by decide +kernel
theorem dX2_doTick_1 : decode cX2_doTick 1 = .ok (.invokevirtual 23, 3) := by decide +kernel
theorem dX2_doTick_4 : decode cX2_doTick 4 = .ok (.aload_n 0, 1) := by decide +kernel
theorem dX2_doTick_5 : decode cX2_doTick 5 = .ok (.invokevirtual 26, 3) := by decide +kernel
theorem dX2_doTick_8 : decode cX2_doTick 8 = .ok (.aload_n 0, 1) := by decide +kernel
theorem dX2_doTick_9 : decode cX2_doTick 9 = .ok (.invokevirtual 29, 3) := by decide +kernel
theorem dX2_doTick_12 : decode cX2_doTick 12 = .ok (.aload_n 0, 1) := by decide +kernel
theorem dX2_doTick_13 : decode cX2_doTick 13 = .ok (.aload_n 0, 1) := by decide +kernel
theorem dX2_doTick_14 : decode cX2_doTick 14 = .ok (.getfield 32, 3) := by decide +kernel
theorem dX2_doTick_17 : decode cX2_doTick 17 = .ok (.iconst 1, 1) := by decide +kernel
theorem dX2_doTick_18 : decode cX2_doTick 18 = .ok (.iadd, 1) := by decide +kernel
theorem dX2_doTick_19 : decode cX2_doTick 19 = .ok (.bipush 24, 2) := by decide +kernel
theorem dX2_doTick_21 : decode cX2_doTick 21 = .ok (.irem, 1) := by decide +kernel
theorem dX2_doTick_22 : decode cX2_doTick 22 = .ok (.putfield 32, 3) := by decide +kernel
theorem dX2_doTick_25 : decode cX2_doTick 25 = .ok (.return_, 1) := by decide +kernel
theorem dX2_forgetLatest_0 : decode cX2_forgetLatest 0 = .ok (.iconst 0, 1) := by decide +kernel
theorem dX2_forgetLatest_1 : decode cX2_forgetLatest 1 = .ok (.istore_n 1, 1) := by decide +kernel
theorem dX2_forgetLatest_2 : decode cX2_forgetLatest 2 = .ok (.iload_n 1, 1) := by decide +kernel
theorem dX2_forgetLatest_3 : decode cX2_forgetLatest 3 = .ok (.aload_n 0, 1) := by decide +kernel
theorem dX2_forgetLatest_4 : decode cX2_forgetLatest 4 = .ok (.getfield 15, 3) := by decide +kernel
theorem dX2_forgetLatest_7 : decode cX2_forgetLatest 7 = .ok (.getfield 35, 3) := by decide +kernel
theorem dX2_forgetLatest_10 : decode cX2_forgetLatest 10 = .ok (.if_icmp .ge 21, 3) := by decide +kernel
theorem dX2_forgetLatest_13 : decode cX2_forgetLatest 13 = .ok (.aload_n 0, 1) := by decide +kernel
theorem dX2_forgetLatest_14 : decode cX2_forgetLatest 14 = .ok (.getfield 15, 3) := by decide +kernel
theorem dX2_forgetLatest_17 : decode cX2_forgetLatest 17 = .ok (.iload_n 1, 1) := by decide +kernel
theorem dX2_forgetLatest_18 : decode cX2_forgetLatest 18 = .ok (.invokevirtual 40, 3) := by decide +kernel
theorem dX2_forgetLatest_21 : decode cX2_forgetLatest 21 = .ok (.iconst 0, 1) := by decide +kernel
theorem dX2_forgetLatest_22 : decode cX2_forgetLatest 22 = .ok (.putfield 44, 3) := by decide +kernel
theorem dX2_forgetLatest_25 : decode cX2_forgetLatest 25 = .ok (.iinc 1 1, 3) := by decide +kernel
theorem dX2_forgetLatest_28 : decode cX2_forgetLatest 28 = .ok (.goto (-26), 3) := by decide +kernel
theorem dX2_forgetLatest_31 : decode cX2_forgetLatest 31 = .ok (.iconst 0, 1) := by decide +kernel
theorem dX2_forgetLatest_32 : decode cX2_forgetLatest 32 = .ok (.istore_n 1, 1) := by decide +kernel
theorem dX2_forgetLatest_33 : decode cX2_forgetLatest 33 = .ok (.iload_n 1, 1) := by decide +kernel
theorem dX2_forgetLatest_34 : decode cX2_forgetLatest 34 = .ok (.aload_n 0, 1) := by decide +kernel
theorem dX2_forgetLatest_35 : decode cX2_forgetLatest 35 = .ok (.getfield 19, 3) := by decide +kernel
theorem dX2_forgetLatest_38 : decode cX2_forgetLatest 38 = .ok (.getfield 49, 3) := by decide +kernel
theorem dX2_forgetLatest_41 : decode cX2_forgetLatest 41 = .ok (.if_icmp .ge 21, 3) := by decide +kernel
theorem dX2_forgetLatest_44 : decode cX2_forgetLatest 44 = .ok (.aload_n 0, 1) := by decide +kernel
theorem dX2_forgetLatest_45 : decode cX2_forgetLatest 45 = .ok (.getfield 19, 3) := by decide +kernel
theorem dX2_forgetLatest_48 : decode cX2_forgetLatest 48 = .ok (.iload_n 1, 1) := by decide +kernel
theorem dX2_forgetLatest_49 : decode cX2_forgetLatest 49 = .ok (.invokevirtual 54, 3) := by decide +kernel
theorem dX2_forgetLatest_52 : decode cX2_forgetLatest 52 = .ok (.iconst 0, 1) := by decide +kernel
theorem dX2_forgetLatest_53 : decode cX2_forgetLatest 53 = .ok (.putfield 58, 3) := by decide +kernel
theorem dX2_forgetLatest_56 : decode cX2_forgetLatest 56 = .ok (.iinc 1 1, 3) := by decide +kernel
theorem dX2_forgetLatest_59 : decode cX2_forgetLatest 59 = .ok (.goto (-26), 3) := by decide +kernel
theorem dX2_forgetLatest_62 : decode cX2_forgetLatest 62 = .ok (.return_, 1) := by decide +kernel
theorem dX2_passNeeds_0 : decode cX2_passNeeds 0 = .ok (.iconst 0, 1) := by decide +kernel
theorem dX2_passNeeds_1 : decode cX2_passNeeds 1 = .ok (.istore_n 1, 1) := by decide +kernel
theorem dX2_passNeeds_2 : decode cX2_passNeeds 2 = .ok (.iload_n 1, 1) := by decide +kernel
theorem dX2_passNeeds_3 : decode cX2_passNeeds 3 = .ok (.aload_n 0, 1) := by decide +kernel
theorem dX2_passNeeds_4 : decode cX2_passNeeds 4 = .ok (.getfield 19, 3) := by decide +kernel
theorem dX2_passNeeds_7 : decode cX2_passNeeds 7 = .ok (.getfield 49, 3) := by decide +kernel
theorem dX2_passNeeds_10 : decode cX2_passNeeds 10 = .ok (.if_icmp .ge 53, 3) := by decide +kernel
theorem dX2_passNeeds_13 : decode cX2_passNeeds 13 = .ok (.aload_n 0, 1) := by decide +kernel
theorem dX2_passNeeds_14 : decode cX2_passNeeds 14 = .ok (.getfield 19, 3) := by decide +kernel
theorem dX2_passNeeds_17 : decode cX2_passNeeds 17 = .ok (.iload_n 1, 1) := by decide +kernel
theorem dX2_passNeeds_18 : decode cX2_passNeeds 18 = .ok (.invokevirtual 54, 3) := by decide +kernel
theorem dX2_passNeeds_21 : decode cX2_passNeeds 21 = .ok (.astore_n 2, 1) := by decide +kernel
theorem dX2_passNeeds_22 : decode cX2_passNeeds 22 = .ok (.aload_n 0, 1) := by decide +kernel
theorem dX2_passNeeds_23 : decode cX2_passNeeds 23 = .ok (.aload_n 2, 1) := by decide +kernel
theorem dX2_passNeeds_24 : decode cX2_passNeeds 24 = .ok (.invokevirtual 61, 3) := by decide +kernel
theorem dX2_passNeeds_27 : decode cX2_passNeeds 27 = .ok (.istore_n 3, 1) := by decide +kernel
theorem dX2_passNeeds_28 : decode cX2_passNeeds 28 = .ok (.iload_n 3, 1) := by decide +kernel
theorem dX2_passNeeds_29 : decode cX2_passNeeds 29 = .ok (.ifCond .eq 28, 3) := by decide +kernel
theorem dX2_passNeeds_32 : decode cX2_passNeeds 32 = .ok (.aload_n 0, 1) := by decide +kernel
theorem dX2_passNeeds_33 : decode cX2_passNeeds 33 = .ok (.aload_n 2, 1) := by decide +kernel
theorem dX2_passNeeds_34 : decode cX2_passNeeds 34 = .ok (.iload_n 3, 1) := by decide +kernel
theorem dX2_passNeeds_35 : decode cX2_passNeeds 35 = .ok (.aload_n 2, 1) := by decide +kernel
theorem dX2_passNeeds_36 : decode cX2_passNeeds 36 = .ok (.getfield 65, 3) := by decide +kernel
theorem dX2_passNeeds_39 : decode cX2_passNeeds 39 = .ok (.aload_n 2, 1) := by decide +kernel
theorem dX2_passNeeds_40 : decode cX2_passNeeds 40 = .ok (.invokevirtual 68, 3) := by decide +kernel
theorem dX2_passNeeds_43 : decode cX2_passNeeds 43 = .ok (.invokestatic 72, 3) := by decide +kernel
theorem dX2_passNeeds_46 : decode cX2_passNeeds 46 = .ok (.aload_n 0, 1) := by decide +kernel
theorem dX2_passNeeds_47 : decode cX2_passNeeds 47 = .ok (.iload_n 3, 1) := by decide +kernel
theorem dX2_passNeeds_48 : decode cX2_passNeeds 48 = .ok (.invokevirtual 78, 3) := by decide +kernel
theorem dX2_passNeeds_51 : decode cX2_passNeeds 51 = .ok (.invokestatic 72, 3) := by decide +kernel
theorem dX2_passNeeds_54 : decode cX2_passNeeds 54 = .ok (.invokevirtual 82, 3) := by decide +kernel
theorem dX2_passNeeds_57 : decode cX2_passNeeds 57 = .ok (.iinc 1 1, 3) := by decide +kernel
theorem dX2_passNeeds_60 : decode cX2_passNeeds 60 = .ok (.goto (-58), 3) := by decide +kernel
theorem dX2_passNeeds_63 : decode cX2_passNeeds 63 = .ok (.return_, 1) := by decide +kernel
theorem dX2_lend_0 : decode cX2_lend 0 = .ok (.iconst 0, 1) := by decide +kernel
theorem dX2_lend_1 : decode cX2_lend 1 = .ok (.istore_n 1, 1) := by decide +kernel
theorem dX2_lend_2 : decode cX2_lend 2 = .ok (.aload_n 0, 1) := by decide +kernel
theorem dX2_lend_3 : decode cX2_lend 3 = .ok (.getfield 9, 3) := by decide +kernel
theorem dX2_lend_6 : decode cX2_lend 6 = .ok (.istore_n 2, 1) := by decide +kernel
theorem dX2_lend_7 : decode cX2_lend 7 = .ok (.iconst 0, 1) := by decide +kernel
theorem dX2_lend_8 : decode cX2_lend 8 = .ok (.istore_n 3, 1) := by decide +kernel
theorem dX2_lend_9 : decode cX2_lend 9 = .ok (.iload_n 3, 1) := by decide +kernel
theorem dX2_lend_10 : decode cX2_lend 10 = .ok (.sipush 10000, 3) := by decide +kernel
theorem dX2_lend_13 : decode cX2_lend 13 = .ok (.if_icmp .ge 97, 3) := by decide +kernel
theorem dX2_lend_16 : decode cX2_lend 16 = .ok (.iload_n 1, 1) := by decide +kernel
theorem dX2_lend_17 : decode cX2_lend 17 = .ok (.aload_n 0, 1) := by decide +kernel
theorem dX2_lend_18 : decode cX2_lend 18 = .ok (.getfield 19, 3) := by decide +kernel
theorem dX2_lend_21 : decode cX2_lend 21 = .ok (.getfield 49, 3) := by decide +kernel
theorem dX2_lend_24 : decode cX2_lend 24 = .ok (.if_icmp .ge 86, 3) := by decide +kernel
theorem dX2_lend_27 : decode cX2_lend 27 = .ok (.iload_n 2, 1) := by decide +kernel
theorem dX2_lend_28 : decode cX2_lend 28 = .ok (.iconst 1, 1) := by decide +kernel
theorem dX2_lend_29 : decode cX2_lend 29 = .ok (.iadd, 1) := by decide +kernel
theorem dX2_lend_30 : decode cX2_lend 30 = .ok (.aload_n 0, 1) := by decide +kernel
theorem dX2_lend_31 : decode cX2_lend 31 = .ok (.getfield 19, 3) := by decide +kernel
theorem dX2_lend_34 : decode cX2_lend 34 = .ok (.getfield 49, 3) := by decide +kernel
theorem dX2_lend_37 : decode cX2_lend 37 = .ok (.if_icmp .ge 9, 3) := by decide +kernel
theorem dX2_lend_40 : decode cX2_lend 40 = .ok (.iload_n 2, 1) := by decide +kernel
theorem dX2_lend_41 : decode cX2_lend 41 = .ok (.iconst 1, 1) := by decide +kernel
theorem dX2_lend_42 : decode cX2_lend 42 = .ok (.iadd, 1) := by decide +kernel
theorem dX2_lend_43 : decode cX2_lend 43 = .ok (.goto 4, 3) := by decide +kernel
theorem dX2_lend_46 : decode cX2_lend 46 = .ok (.iconst 0, 1) := by decide +kernel
theorem dX2_lend_47 : decode cX2_lend 47 = .ok (.istore_n 2, 1) := by decide +kernel
theorem dX2_lend_48 : decode cX2_lend 48 = .ok (.aload_n 0, 1) := by decide +kernel
theorem dX2_lend_49 : decode cX2_lend 49 = .ok (.getfield 19, 3) := by decide +kernel
theorem dX2_lend_52 : decode cX2_lend 52 = .ok (.iload_n 2, 1) := by decide +kernel
theorem dX2_lend_53 : decode cX2_lend 53 = .ok (.invokevirtual 54, 3) := by decide +kernel
theorem dX2_lend_56 : decode cX2_lend 56 = .ok (.astore 4, 2) := by decide +kernel
theorem dX2_lend_58 : decode cX2_lend 58 = .ok (.aload_n 0, 1) := by decide +kernel
theorem dX2_lend_59 : decode cX2_lend 59 = .ok (.aload 4, 2) := by decide +kernel
theorem dX2_lend_61 : decode cX2_lend 61 = .ok (.invokevirtual 86, 3) := by decide +kernel
theorem dX2_lend_64 : decode cX2_lend 64 = .ok (.ifCond .eq 37, 3) := by decide +kernel
theorem dX2_lend_67 : decode cX2_lend 67 = .ok (.aload_n 0, 1) := by decide +kernel
theorem dX2_lend_68 : decode cX2_lend 68 = .ok (.aload 4, 2) := by decide +kernel
theorem dX2_lend_70 : decode cX2_lend 70 = .ok (.aload_n 0, 1) := by decide +kernel
theorem dX2_lend_71 : decode cX2_lend 71 = .ok (.aload 4, 2) := by decide +kernel
theorem dX2_lend_73 : decode cX2_lend 73 = .ok (.invokevirtual 61, 3) := by decide +kernel
theorem dX2_lend_76 : decode cX2_lend 76 = .ok (.iconst 1, 1) := by decide +kernel
theorem dX2_lend_77 : decode cX2_lend 77 = .ok (.invokevirtual 82, 3) := by decide +kernel
theorem dX2_lend_80 : decode cX2_lend 80 = .ok (.aload 4, 2) := by decide +kernel
theorem dX2_lend_82 : decode cX2_lend 82 = .ok (.dup, 1) := by decide +kernel
theorem dX2_lend_83 : decode cX2_lend 83 = .ok (.getfield 90, 3) := by decide +kernel
theorem dX2_lend_86 : decode cX2_lend 86 = .ok (.iconst 1, 1) := by decide +kernel
theorem dX2_lend_87 : decode cX2_lend 87 = .ok (.iadd, 1) := by decide +kernel
theorem dX2_lend_88 : decode cX2_lend 88 = .ok (.putfield 90, 3) := by decide +kernel
theorem dX2_lend_91 : decode cX2_lend 91 = .ok (.aload_n 0, 1) := by decide +kernel
theorem dX2_lend_92 : decode cX2_lend 92 = .ok (.iload_n 2, 1) := by decide +kernel
theorem dX2_lend_93 : decode cX2_lend 93 = .ok (.putfield 9, 3) := by decide +kernel
theorem dX2_lend_96 : decode cX2_lend 96 = .ok (.iconst 0, 1) := by decide +kernel
theorem dX2_lend_97 : decode cX2_lend 97 = .ok (.istore_n 1, 1) := by decide +kernel
theorem dX2_lend_98 : decode cX2_lend 98 = .ok (.goto 6, 3) := by decide +kernel
theorem dX2_lend_101 : decode cX2_lend 101 = .ok (.iinc 1 1, 3) := by decide +kernel
theorem dX2_lend_104 : decode cX2_lend 104 = .ok (.iinc 3 1, 3) := by decide +kernel
theorem dX2_lend_107 : decode cX2_lend 107 = .ok (.goto (-98), 3) := by decide +kernel
theorem dX2_lend_110 : decode cX2_lend 110 = .ok (.return_, 1) := by decide +kernel
theorem dX2_canBorrow_0 : decode cX2_canBorrow 0 = .ok (.aload_n 1, 1) := by decide +kernel
theorem dX2_canBorrow_1 : decode cX2_canBorrow 1 = .ok (.iconst 2, 1) := by decide +kernel
theorem dX2_canBorrow_2 : decode cX2_canBorrow 2 = .ok (.invokevirtual 93, 3) := by decide +kernel
theorem dX2_canBorrow_5 : decode cX2_canBorrow 5 = .ok (.ifCond .eq 21, 3) := by decide +kernel
theorem dX2_canBorrow_8 : decode cX2_canBorrow 8 = .ok (.aload_n 1, 1) := by decide +kernel
theorem dX2_canBorrow_9 : decode cX2_canBorrow 9 = .ok (.getfield 65, 3) := by decide +kernel
theorem dX2_canBorrow_12 : decode cX2_canBorrow 12 = .ok (.ifCond .le 14, 3) := by decide +kernel
theorem dX2_canBorrow_15 : decode cX2_canBorrow 15 = .ok (.aload_n 1, 1) := by decide +kernel
theorem dX2_canBorrow_16 : decode cX2_canBorrow 16 = .ok (.getfield 58, 3) := by decide +kernel
theorem dX2_canBorrow_19 : decode cX2_canBorrow 19 = .ok (.aload_n 1, 1) := by decide +kernel
theorem dX2_canBorrow_20 : decode cX2_canBorrow 20 = .ok (.getfield 97, 3) := by decide +kernel
theorem dX2_canBorrow_23 : decode cX2_canBorrow 23 = .ok (.if_icmp .lt 5, 3) := by decide +kernel
theorem dX2_canBorrow_26 : decode cX2_canBorrow 26 = .ok (.iconst 0, 1) := by decide +kernel
theorem dX2_canBorrow_27 : decode cX2_canBorrow 27 = .ok (.ireturn, 1) := by decide +kernel
theorem dX2_canBorrow_28 : decode cX2_canBorrow 28 = .ok (.aload_n 0, 1) := by decide +kernel
theorem dX2_canBorrow_29 : decode cX2_canBorrow 29 = .ok (.aload_n 1, 1) := by decide +kernel
theorem dX2_canBorrow_30 : decode cX2_canBorrow 30 = .ok (.invokevirtual 61, 3) := by decide +kernel
theorem dX2_canBorrow_33 : decode cX2_canBorrow 33 = .ok (.istore_n 2, 1) := by decide +kernel
theorem dX2_canBorrow_34 : decode cX2_canBorrow 34 = .ok (.iload_n 2, 1) := by decide +kernel
theorem dX2_canBorrow_35 : decode cX2_canBorrow 35 = .ok (.ifCond .eq 15, 3) := by decide +kernel
theorem dX2_canBorrow_38 : decode cX2_canBorrow 38 = .ok (.aload_n 0, 1) := by decide +kernel
theorem dX2_canBorrow_39 : decode cX2_canBorrow 39 = .ok (.iload_n 2, 1) := by decide +kernel
theorem dX2_canBorrow_40 : decode cX2_canBorrow 40 = .ok (.invokevirtual 78, 3) := by decide +kernel
theorem dX2_canBorrow_43 : decode cX2_canBorrow 43 = .ok (.ifCond .le 7, 3) := by decide +kernel
theorem dX2_canBorrow_46 : decode cX2_canBorrow 46 = .ok (.iconst 1, 1) := by decide +kernel
theorem dX2_canBorrow_47 : decode cX2_canBorrow 47 = .ok (.goto 4, 3) := by decide +kernel
theorem dX2_canBorrow_50 : decode cX2_canBorrow 50 = .ok (.iconst 0, 1) := by decide +kernel
theorem dX2_canBorrow_51 : decode cX2_canBorrow 51 = .ok (.ireturn, 1) := by decide +kernel
theorem dX2_wayNow_0 : decode cX2_wayNow 0 = .ok (.aload_n 1, 1) := by decide +kernel
theorem dX2_wayNow_1 : decode cX2_wayNow 1 = .ok (.invokevirtual 100, 3) := by decide +kernel
theorem dX2_wayNow_4 : decode cX2_wayNow 4 = .ok (.ifCond .eq 31, 3) := by decide +kernel
theorem dX2_wayNow_7 : decode cX2_wayNow 7 = .ok (.aload_n 1, 1) := by decide +kernel
theorem dX2_wayNow_8 : decode cX2_wayNow 8 = .ok (.getfield 104, 3) := by decide +kernel
theorem dX2_wayNow_11 : decode cX2_wayNow 11 = .ok (.aload_n 0, 1) := by decide +kernel
theorem dX2_wayNow_12 : decode cX2_wayNow 12 = .ok (.getfield 32, 3) := by decide +kernel
theorem dX2_wayNow_15 : decode cX2_wayNow 15 = .ok (.invokestatic 107, 3) := by decide +kernel
theorem dX2_wayNow_18 : decode cX2_wayNow 18 = .ok (.ifCond .eq 17, 3) := by decide +kernel
theorem dX2_wayNow_21 : decode cX2_wayNow 21 = .ok (.aload_n 1, 1) := by decide +kernel
theorem dX2_wayNow_22 : decode cX2_wayNow 22 = .ok (.aload_n 0, 1) := by decide +kernel
theorem dX2_wayNow_23 : decode cX2_wayNow 23 = .ok (.getfield 15, 3) := by decide +kernel
theorem dX2_wayNow_26 : decode cX2_wayNow 26 = .ok (.getfield 111, 3) := by decide +kernel
theorem dX2_wayNow_29 : decode cX2_wayNow 29 = .ok (.invokevirtual 114, 3) := by decide +kernel
theorem dX2_wayNow_32 : decode cX2_wayNow 32 = .ok (.goto 4, 3) := by decide +kernel
theorem dX2_wayNow_35 : decode cX2_wayNow 35 = .ok (.iconst 0, 1) := by decide +kernel
theorem dX2_wayNow_36 : decode cX2_wayNow 36 = .ok (.ireturn, 1) := by decide +kernel
theorem dX2_leftOn_0 : decode cX2_leftOn 0 = .ok (.sipush 1000, 3) := by decide +kernel
theorem dX2_leftOn_3 : decode cX2_leftOn 3 = .ok (.istore_n 2, 1) := by decide +kernel
theorem dX2_leftOn_4 : decode cX2_leftOn 4 = .ok (.iconst 0, 1) := by decide +kernel
theorem dX2_leftOn_5 : decode cX2_leftOn 5 = .ok (.istore_n 3, 1) := by decide +kernel
theorem dX2_leftOn_6 : decode cX2_leftOn 6 = .ok (.iload_n 3, 1) := by decide +kernel
theorem dX2_leftOn_7 : decode cX2_leftOn 7 = .ok (.aload_n 0, 1) := by decide +kernel
theorem dX2_leftOn_8 : decode cX2_leftOn 8 = .ok (.getfield 15, 3) := by decide +kernel
theorem dX2_leftOn_11 : decode cX2_leftOn 11 = .ok (.getfield 35, 3) := by decide +kernel
theorem dX2_leftOn_14 : decode cX2_leftOn 14 = .ok (.if_icmp .ge 33, 3) := by decide +kernel
theorem dX2_leftOn_17 : decode cX2_leftOn 17 = .ok (.iload_n 1, 1) := by decide +kernel
theorem dX2_leftOn_18 : decode cX2_leftOn 18 = .ok (.iload_n 3, 1) := by decide +kernel
theorem dX2_leftOn_19 : decode cX2_leftOn 19 = .ok (.invokestatic 107, 3) := by decide +kernel
theorem dX2_leftOn_22 : decode cX2_leftOn 22 = .ok (.ifCond .eq 19, 3) := by decide +kernel
theorem dX2_leftOn_25 : decode cX2_leftOn 25 = .ok (.iload_n 2, 1) := by decide +kernel
theorem dX2_leftOn_26 : decode cX2_leftOn 26 = .ok (.aload_n 0, 1) := by decide +kernel
theorem dX2_leftOn_27 : decode cX2_leftOn 27 = .ok (.getfield 15, 3) := by decide +kernel
theorem dX2_leftOn_30 : decode cX2_leftOn 30 = .ok (.iload_n 3, 1) := by decide +kernel
theorem dX2_leftOn_31 : decode cX2_leftOn 31 = .ok (.invokevirtual 40, 3) := by decide +kernel
theorem dX2_leftOn_34 : decode cX2_leftOn 34 = .ok (.invokevirtual 117, 3) := by decide +kernel
theorem dX2_leftOn_37 : decode cX2_leftOn 37 = .ok (.invokestatic 72, 3) := by decide +kernel
theorem dX2_leftOn_40 : decode cX2_leftOn 40 = .ok (.istore_n 2, 1) := by decide +kernel
theorem dX2_leftOn_41 : decode cX2_leftOn 41 = .ok (.iinc 3 1, 3) := by decide +kernel
theorem dX2_leftOn_44 : decode cX2_leftOn 44 = .ok (.goto (-38), 3) := by decide +kernel
theorem dX2_leftOn_47 : decode cX2_leftOn 47 = .ok (.iload_n 2, 1) := by decide +kernel
theorem dX2_leftOn_48 : decode cX2_leftOn 48 = .ok (.ireturn, 1) := by decide +kernel
theorem dX2_pass_0 : decode cX2_pass 0 = .ok (.iconst 0, 1) := by decide +kernel
theorem dX2_pass_1 : decode cX2_pass 1 = .ok (.istore 4, 2) := by decide +kernel
theorem dX2_pass_3 : decode cX2_pass 3 = .ok (.iconst 0, 1) := by decide +kernel
theorem dX2_pass_4 : decode cX2_pass 4 = .ok (.istore 5, 2) := by decide +kernel
theorem dX2_pass_6 : decode cX2_pass 6 = .ok (.iload 5, 2) := by decide +kernel
theorem dX2_pass_8 : decode cX2_pass 8 = .ok (.aload_n 0, 1) := by decide +kernel
theorem dX2_pass_9 : decode cX2_pass 9 = .ok (.getfield 15, 3) := by decide +kernel
theorem dX2_pass_12 : decode cX2_pass 12 = .ok (.getfield 35, 3) := by decide +kernel
theorem dX2_pass_15 : decode cX2_pass 15 = .ok (.if_icmp .ge 48, 3) := by decide +kernel
theorem dX2_pass_18 : decode cX2_pass 18 = .ok (.iload_n 2, 1) := by decide +kernel
theorem dX2_pass_19 : decode cX2_pass 19 = .ok (.iload 5, 2) := by decide +kernel
theorem dX2_pass_21 : decode cX2_pass 21 = .ok (.invokestatic 107, 3) := by decide +kernel
theorem dX2_pass_24 : decode cX2_pass 24 = .ok (.ifCond .eq 33, 3) := by decide +kernel
theorem dX2_pass_27 : decode cX2_pass 27 = .ok (.aload_n 0, 1) := by decide +kernel
theorem dX2_pass_28 : decode cX2_pass 28 = .ok (.getfield 15, 3) := by decide +kernel
theorem dX2_pass_31 : decode cX2_pass 31 = .ok (.iload 5, 2) := by decide +kernel
theorem dX2_pass_33 : decode cX2_pass 33 = .ok (.invokevirtual 40, 3) := by decide +kernel
theorem dX2_pass_36 : decode cX2_pass 36 = .ok (.iload_n 3, 1) := by decide +kernel
theorem dX2_pass_37 : decode cX2_pass 37 = .ok (.invokevirtual 120, 3) := by decide +kernel
theorem dX2_pass_40 : decode cX2_pass 40 = .ok (.iload 4, 2) := by decide +kernel
theorem dX2_pass_42 : decode cX2_pass 42 = .ok (.aload_n 0, 1) := by decide +kernel
theorem dX2_pass_43 : decode cX2_pass 43 = .ok (.getfield 15, 3) := by decide +kernel
theorem dX2_pass_46 : decode cX2_pass 46 = .ok (.iload 5, 2) := by decide +kernel
theorem dX2_pass_48 : decode cX2_pass 48 = .ok (.invokevirtual 40, 3) := by decide +kernel
theorem dX2_pass_51 : decode cX2_pass 51 = .ok (.getfield 123, 3) := by decide +kernel
theorem dX2_pass_54 : decode cX2_pass 54 = .ok (.iadd, 1) := by decide +kernel
theorem dX2_pass_55 : decode cX2_pass 55 = .ok (.istore 4, 2) := by decide +kernel
theorem dX2_pass_57 : decode cX2_pass 57 = .ok (.iinc 5 1, 3) := by decide +kernel
theorem dX2_pass_60 : decode cX2_pass 60 = .ok (.goto (-54), 3) := by decide +kernel
theorem dX2_pass_63 : decode cX2_pass 63 = .ok (.aload_n 1, 1) := by decide +kernel
theorem dX2_pass_64 : decode cX2_pass 64 = .ok (.dup, 1) := by decide +kernel
theorem dX2_pass_65 : decode cX2_pass 65 = .ok (.getfield 65, 3) := by decide +kernel
theorem dX2_pass_68 : decode cX2_pass 68 = .ok (.iload_n 3, 1) := by decide +kernel
theorem dX2_pass_69 : decode cX2_pass 69 = .ok (.isub, 1) := by decide +kernel
theorem dX2_pass_70 : decode cX2_pass 70 = .ok (.putfield 65, 3) := by decide +kernel
theorem dX2_pass_73 : decode cX2_pass 73 = .ok (.aload_n 1, 1) := by decide +kernel
theorem dX2_pass_74 : decode cX2_pass 74 = .ok (.dup, 1) := by decide +kernel
theorem dX2_pass_75 : decode cX2_pass 75 = .ok (.getfield 126, 3) := by decide +kernel
theorem dX2_pass_78 : decode cX2_pass 78 = .ok (.iload_n 3, 1) := by decide +kernel
theorem dX2_pass_79 : decode cX2_pass 79 = .ok (.iadd, 1) := by decide +kernel
theorem dX2_pass_80 : decode cX2_pass 80 = .ok (.putfield 126, 3) := by decide +kernel
theorem dX2_pass_83 : decode cX2_pass 83 = .ok (.aload_n 1, 1) := by decide +kernel
theorem dX2_pass_84 : decode cX2_pass 84 = .ok (.dup, 1) := by decide +kernel
theorem dX2_pass_85 : decode cX2_pass 85 = .ok (.getfield 58, 3) := by decide +kernel
theorem dX2_pass_88 : decode cX2_pass 88 = .ok (.iload_n 3, 1) := by decide +kernel
theorem dX2_pass_89 : decode cX2_pass 89 = .ok (.iadd, 1) := by decide +kernel
theorem dX2_pass_90 : decode cX2_pass 90 = .ok (.putfield 58, 3) := by decide +kernel
theorem dX2_pass_93 : decode cX2_pass 93 = .ok (.aload_n 1, 1) := by decide +kernel
theorem dX2_pass_94 : decode cX2_pass 94 = .ok (.dup, 1) := by decide +kernel
theorem dX2_pass_95 : decode cX2_pass 95 = .ok (.getfield 129, 3) := by decide +kernel
theorem dX2_pass_98 : decode cX2_pass 98 = .ok (.iload_n 3, 1) := by decide +kernel
theorem dX2_pass_99 : decode cX2_pass 99 = .ok (.iload 4, 2) := by decide +kernel
theorem dX2_pass_101 : decode cX2_pass 101 = .ok (.imul, 1) := by decide +kernel
theorem dX2_pass_102 : decode cX2_pass 102 = .ok (.iadd, 1) := by decide +kernel
theorem dX2_pass_103 : decode cX2_pass 103 = .ok (.putfield 129, 3) := by decide +kernel
theorem dX2_pass_106 : decode cX2_pass 106 = .ok (.aload_n 0, 1) := by decide +kernel
theorem dX2_pass_107 : decode cX2_pass 107 = .ok (.dup, 1) := by decide +kernel
theorem dX2_pass_108 : decode cX2_pass 108 = .ok (.getfield 132, 3) := by decide +kernel
theorem dX2_pass_111 : decode cX2_pass 111 = .ok (.iload_n 3, 1) := by decide +kernel
theorem dX2_pass_112 : decode cX2_pass 112 = .ok (.iadd, 1) := by decide +kernel
theorem dX2_pass_113 : decode cX2_pass 113 = .ok (.putfield 132, 3) := by decide +kernel
theorem dX2_pass_116 : decode cX2_pass 116 = .ok (.aload_n 0, 1) := by decide +kernel
theorem dX2_pass_117 : decode cX2_pass 117 = .ok (.dup, 1) := by decide +kernel
theorem dX2_pass_118 : decode cX2_pass 118 = .ok (.getfield 133, 3) := by decide +kernel
theorem dX2_pass_121 : decode cX2_pass 121 = .ok (.iload_n 3, 1) := by decide +kernel
theorem dX2_pass_122 : decode cX2_pass 122 = .ok (.iload 4, 2) := by decide +kernel
theorem dX2_pass_124 : decode cX2_pass 124 = .ok (.imul, 1) := by decide +kernel
theorem dX2_pass_125 : decode cX2_pass 125 = .ok (.iadd, 1) := by decide +kernel
theorem dX2_pass_126 : decode cX2_pass 126 = .ok (.putfield 133, 3) := by decide +kernel
theorem dX2_pass_129 : decode cX2_pass 129 = .ok (.return_, 1) := by decide +kernel
theorem dX3_init_0 : decode cX3_init 0 = .ok (.aload_n 0, 1) := by decide +kernel
theorem dX3_init_1 : decode cX3_init 1 = .ok (.invokespecial 3, 3) := by decide +kernel
theorem dX3_init_4 : decode cX3_init 4 = .ok (.aload_n 0, 1) := by decide +kernel
theorem dX3_init_5 : decode cX3_init 5 = .ok (.new 9, 3) := by decide +kernel
theorem dX3_init_8 : decode cX3_init 8 = .ok (.dup, 1) := by decide +kernel
theorem dX3_init_9 : decode cX3_init 9 = .ok (.invokespecial 11, 3) := by decide +kernel
theorem dX3_init_12 : decode cX3_init 12 = .ok (.putfield 12, 3) := by decide +kernel
theorem dX3_init_15 : decode cX3_init 15 = .ok (.aload_n 0, 1) := by decide +kernel
theorem dX3_init_16 : decode cX3_init 16 = .ok (.bipush 24, 2) := by decide +kernel
theorem dX3_init_18 : decode cX3_init 18 = .ok (.newarray .int, 2) := by decide +kernel
theorem dX3_init_20 : decode cX3_init 20 = .ok (.putfield 18, 3) := by decide +kernel
theorem dX3_init_23 : decode cX3_init 23 = .ok (.aload_n 0, 1) := by decide +kernel
theorem dX3_init_24 : decode cX3_init 24 = .ok (.bipush 8, 2) := by decide +kernel
theorem dX3_init_26 : decode cX3_init 26 = .ok (.newarray .int, 2) := by decide +kernel
theorem dX3_init_28 : decode cX3_init 28 = .ok (.putfield 22, 3) := by decide +kernel
theorem dX3_init_31 : decode cX3_init 31 = .ok (.aload_n 0, 1) := by decide +kernel
theorem dX3_init_32 : decode cX3_init 32 = .ok (.bipush 8, 2) := by decide +kernel
theorem dX3_init_34 : decode cX3_init 34 = .ok (.newarray .int, 2) := by decide +kernel
theorem dX3_init_36 : decode cX3_init 36 = .ok (.putfield 25, 3) := by decide +kernel
theorem dX3_init_39 : decode cX3_init 39 = .ok (.aload_n 0, 1) := by decide +kernel
theorem dX3_init_40 : decode cX3_init 40 = .ok (.bipush 8, 2) := by decide +kernel
theorem dX3_init_42 : decode cX3_init 42 = .ok (.newarray .int, 2) := by decide +kernel
theorem dX3_init_44 : decode cX3_init 44 = .ok (.putfield 28, 3) := by decide +kernel
theorem dX3_init_47 : decode cX3_init 47 = .ok (.aload_n 0, 1) := by decide +kernel
theorem dX3_init_48 : decode cX3_init 48 = .ok (.bipush 8, 2) := by decide +kernel
theorem dX3_init_50 : decode cX3_init 50 = .ok (.newarray .int, 2) := by decide +kernel
theorem dX3_init_52 : decode cX3_init 52 = .ok (.putfield 31, 3) := by decide +kernel
theorem dX3_init_55 : decode cX3_init 55 = .ok (.aload_n 0, 1) := by decide +kernel
theorem dX3_init_56 : decode cX3_init 56 = .ok (.sipush 256, 3) := by decide +kernel
theorem dX3_init_59 : decode cX3_init 59 = .ok (.newarray .int, 2) := by decide +kernel
theorem dX3_init_61 : decode cX3_init 61 = .ok (.putfield 34, 3) := by decide +kernel
theorem dX3_init_64 : decode cX3_init 64 = .ok (.aload_n 0, 1) := by decide +kernel
theorem dX3_init_65 : decode cX3_init 65 = .ok (.sipush 256, 3) := by decide +kernel
theorem dX3_init_68 : decode cX3_init 68 = .ok (.newarray .int, 2) := by decide +kernel
theorem dX3_init_70 : decode cX3_init 70 = .ok (.putfield 37, 3) := by decide +kernel
theorem dX3_init_73 : decode cX3_init 73 = .ok (.aload_n 0, 1) := by decide +kernel
theorem dX3_init_74 : decode cX3_init 74 = .ok (.aload_n 1, 1) := by decide +kernel
theorem dX3_init_75 : decode cX3_init 75 = .ok (.putfield 40, 3) := by decide +kernel
theorem dX3_init_78 : decode cX3_init 78 = .ok (.aload_n 0, 1) := by decide +kernel
theorem dX3_init_79 : decode cX3_init 79 = .ok (.aload_n 2, 1) := by decide +kernel
theorem dX3_init_80 : decode cX3_init 80 = .ok (.putfield 44, 3) := by decide +kernel
theorem dX3_init_83 : decode cX3_init 83 = .ok (.return_, 1) := by decide +kernel
theorem dX3_begin_0 : decode cX3_begin 0 = .ok (.aload_n 0, 1) := by decide +kernel
theorem dX3_begin_1 : decode cX3_begin 1 = .ok (.iconst 0, 1) := by decide +kernel
theorem dX3_begin_2 : decode cX3_begin 2 = .ok (.putfield 48, 3) := by decide +kernel
theorem dX3_begin_5 : decode cX3_begin 5 = .ok (.aload_n 0, 1) := by decide +kernel
theorem dX3_begin_6 : decode cX3_begin 6 = .ok (.iconst 0, 1) := by decide +kernel
theorem dX3_begin_7 : decode cX3_begin 7 = .ok (.putfield 52, 3) := by decide +kernel
theorem dX3_begin_10 : decode cX3_begin 10 = .ok (.iconst 0, 1) := by decide +kernel
theorem dX3_begin_11 : decode cX3_begin 11 = .ok (.istore_n 1, 1) := by decide +kernel
theorem dX3_begin_12 : decode cX3_begin 12 = .ok (.iload_n 1, 1) := by decide +kernel
theorem dX3_begin_13 : decode cX3_begin 13 = .ok (.aload_n 0, 1) := by decide +kernel
theorem dX3_begin_14 : decode cX3_begin 14 = .ok (.getfield 44, 3) := by decide +kernel
theorem dX3_begin_17 : decode cX3_begin 17 = .ok (.getfield 56, 3) := by decide +kernel
theorem dX3_begin_20 : decode cX3_begin 20 = .ok (.if_icmp .ge 28, 3) := by decide +kernel
theorem dX3_begin_23 : decode cX3_begin 23 = .ok (.aload_n 0, 1) := by decide +kernel
theorem dX3_begin_24 : decode cX3_begin 24 = .ok (.getfield 44, 3) := by decide +kernel
theorem dX3_begin_27 : decode cX3_begin 27 = .ok (.aload_n 0, 1) := by decide +kernel
theorem dX3_begin_28 : decode cX3_begin 28 = .ok (.getfield 40, 3) := by decide +kernel
theorem dX3_begin_31 : decode cX3_begin 31 = .ok (.iload_n 1, 1) := by decide +kernel
theorem dX3_begin_32 : decode cX3_begin 32 = .ok (.invokevirtual 61, 3) := by decide +kernel
theorem dX3_begin_35 : decode cX3_begin 35 = .ok (.aload_n 0, 1) := by decide +kernel
theorem dX3_begin_36 : decode cX3_begin 36 = .ok (.getfield 40, 3) := by decide +kernel
theorem dX3_begin_39 : decode cX3_begin 39 = .ok (.invokevirtual 65, 3) := by decide +kernel
theorem dX3_begin_42 : decode cX3_begin 42 = .ok (.iinc 1 1, 3) := by decide +kernel
theorem dX3_begin_45 : decode cX3_begin 45 = .ok (.goto (-33), 3) := by decide +kernel
theorem dX3_begin_48 : decode cX3_begin 48 = .ok (.aload_n 0, 1) := by decide +kernel
theorem dX3_begin_49 : decode cX3_begin 49 = .ok (.invokevirtual 71, 3) := by decide +kernel
theorem dX3_begin_52 : decode cX3_begin 52 = .ok (.return_, 1) := by decide +kernel
theorem dX3_placeGot_0 : decode cX3_placeGot 0 = .ok (.aload_n 0, 1) := by decide +kernel
theorem dX3_placeGot_1 : decode cX3_placeGot 1 = .ok (.getfield 31, 3) := by decide +kernel
theorem dX3_placeGot_4 : decode cX3_placeGot 4 = .ok (.iload_n 1, 1) := by decide +kernel
theorem dX3_placeGot_5 : decode cX3_placeGot 5 = .ok (.iaload, 1) := by decide +kernel
theorem dX3_placeGot_6 : decode cX3_placeGot 6 = .ok (.ireturn, 1) := by decide +kernel
theorem dX3_laid_0 : decode cX3_laid 0 = .ok (.aload_n 0, 1) := by decide +kernel
theorem dX3_laid_1 : decode cX3_laid 1 = .ok (.iload_n 1, 1) := by decide +kernel
theorem dX3_laid_2 : decode cX3_laid 2 = .ok (.invokevirtual 74, 3) := by decide +kernel
theorem dX3_laid_5 : decode cX3_laid 5 = .ok (.iconst 0, 1) := by decide +kernel
theorem dX3_laid_6 : decode cX3_laid 6 = .ok (.istore_n 2, 1) := by decide +kernel
theorem dX3_laid_7 : decode cX3_laid 7 = .ok (.iconst 0, 1) := by decide +kernel
theorem dX3_laid_8 : decode cX3_laid 8 = .ok (.istore_n 3, 1) := by decide +kernel
theorem dX3_laid_9 : decode cX3_laid 9 = .ok (.iload_n 3, 1) := by decide +kernel
theorem dX3_laid_10 : decode cX3_laid 10 = .ok (.sipush 10000, 3) := by decide +kernel
theorem dX3_laid_13 : decode cX3_laid 13 = .ok (.if_icmp .ge 101, 3) := by decide +kernel
theorem dX3_laid_16 : decode cX3_laid 16 = .ok (.iload_n 2, 1) := by decide +kernel
theorem dX3_laid_17 : decode cX3_laid 17 = .ok (.ifCond .lt 97, 3) := by decide +kernel
theorem dX3_laid_20 : decode cX3_laid 20 = .ok (.iload_n 2, 1) := by decide +kernel
theorem dX3_laid_21 : decode cX3_laid 21 = .ok (.aload_n 0, 1) := by decide +kernel
theorem dX3_laid_22 : decode cX3_laid 22 = .ok (.getfield 78, 3) := by decide +kernel
theorem dX3_laid_25 : decode cX3_laid 25 = .ok (.if_icmp .ge 89, 3) := by decide +kernel
theorem dX3_laid_28 : decode cX3_laid 28 = .ok (.aload_n 0, 1) := by decide +kernel
theorem dX3_laid_29 : decode cX3_laid 29 = .ok (.getfield 52, 3) := by decide +kernel
theorem dX3_laid_32 : decode cX3_laid 32 = .ok (.ifCond .ne 82, 3) := by decide +kernel
theorem dX3_laid_35 : decode cX3_laid 35 = .ok (.aload_n 0, 1) := by decide +kernel
theorem dX3_laid_36 : decode cX3_laid 36 = .ok (.aload_n 0, 1) := by decide +kernel
theorem dX3_laid_37 : decode cX3_laid 37 = .ok (.getfield 25, 3) := by decide +kernel
theorem dX3_laid_40 : decode cX3_laid 40 = .ok (.iload_n 2, 1) := by decide +kernel
theorem dX3_laid_41 : decode cX3_laid 41 = .ok (.iaload, 1) := by decide +kernel
theorem dX3_laid_42 : decode cX3_laid 42 = .ok (.aload_n 0, 1) := by decide +kernel
theorem dX3_laid_43 : decode cX3_laid 43 = .ok (.getfield 28, 3) := by decide +kernel
theorem dX3_laid_46 : decode cX3_laid 46 = .ok (.iload_n 2, 1) := by decide +kernel
theorem dX3_laid_47 : decode cX3_laid 47 = .ok (.iaload, 1) := by decide +kernel
theorem dX3_laid_48 : decode cX3_laid 48 = .ok (.iconst 1, 1) := by decide +kernel
theorem dX3_laid_49 : decode cX3_laid 49 = .ok (.iadd, 1) := by decide +kernel
theorem dX3_laid_50 : decode cX3_laid 50 = .ok (.invokevirtual 79, 3) := by decide +kernel
theorem dX3_laid_53 : decode cX3_laid 53 = .ok (.istore 4, 2) := by decide +kernel
theorem dX3_laid_55 : decode cX3_laid 55 = .ok (.iload 4, 2) := by decide +kernel
theorem dX3_laid_57 : decode cX3_laid 57 = .ok (.ifCond .lt 29, 3) := by decide +kernel
theorem dX3_laid_60 : decode cX3_laid 60 = .ok (.aload_n 0, 1) := by decide +kernel
theorem dX3_laid_61 : decode cX3_laid 61 = .ok (.getfield 28, 3) := by decide +kernel
theorem dX3_laid_64 : decode cX3_laid 64 = .ok (.iload_n 2, 1) := by decide +kernel
theorem dX3_laid_65 : decode cX3_laid 65 = .ok (.iload 4, 2) := by decide +kernel
theorem dX3_laid_67 : decode cX3_laid 67 = .ok (.iastore, 1) := by decide +kernel
theorem dX3_laid_68 : decode cX3_laid 68 = .ok (.aload_n 0, 1) := by decide +kernel
theorem dX3_laid_69 : decode cX3_laid 69 = .ok (.aload_n 0, 1) := by decide +kernel
theorem dX3_laid_70 : decode cX3_laid 70 = .ok (.getfield 25, 3) := by decide +kernel
theorem dX3_laid_73 : decode cX3_laid 73 = .ok (.iload_n 2, 1) := by decide +kernel
theorem dX3_laid_74 : decode cX3_laid 74 = .ok (.iaload, 1) := by decide +kernel
theorem dX3_laid_75 : decode cX3_laid 75 = .ok (.iload 4, 2) := by decide +kernel
theorem dX3_laid_77 : decode cX3_laid 77 = .ok (.invokevirtual 83, 3) := by decide +kernel
theorem dX3_laid_80 : decode cX3_laid 80 = .ok (.iinc 2 1, 3) := by decide +kernel
theorem dX3_laid_83 : decode cX3_laid 83 = .ok (.goto 25, 3) := by decide +kernel
theorem dX3_laid_86 : decode cX3_laid 86 = .ok (.aload_n 0, 1) := by decide +kernel
theorem dX3_laid_87 : decode cX3_laid 87 = .ok (.getfield 52, 3) := by decide +kernel
theorem dX3_laid_90 : decode cX3_laid 90 = .ok (.ifCond .ne 18, 3) := by decide +kernel
theorem dX3_laid_93 : decode cX3_laid 93 = .ok (.aload_n 0, 1) := by decide +kernel
theorem dX3_laid_94 : decode cX3_laid 94 = .ok (.getfield 28, 3) := by decide +kernel
theorem dX3_laid_97 : decode cX3_laid 97 = .ok (.iload_n 2, 1) := by decide +kernel
theorem dX3_laid_98 : decode cX3_laid 98 = .ok (.iconst (-1), 1) := by decide +kernel
theorem dX3_laid_99 : decode cX3_laid 99 = .ok (.iastore, 1) := by decide +kernel
theorem dX3_laid_100 : decode cX3_laid 100 = .ok (.iinc 2 (-1), 3) := by decide +kernel
theorem dX3_laid_103 : decode cX3_laid 103 = .ok (.aload_n 0, 1) := by decide +kernel
theorem dX3_laid_104 : decode cX3_laid 104 = .ok (.iload_n 2, 1) := by decide +kernel
theorem dX3_laid_105 : decode cX3_laid 105 = .ok (.invokevirtual 87, 3) := by decide +kernel
theorem dX3_laid_108 : decode cX3_laid 108 = .ok (.iinc 3 1, 3) := by decide +kernel
theorem dX3_laid_111 : decode cX3_laid 111 = .ok (.goto (-102), 3) := by decide +kernel
theorem dX3_laid_114 : decode cX3_laid 114 = .ok (.iload_n 2, 1) := by decide +kernel
theorem dX3_laid_115 : decode cX3_laid 115 = .ok (.aload_n 0, 1) := by decide +kernel
theorem dX3_laid_116 : decode cX3_laid 116 = .ok (.getfield 78, 3) := by decide +kernel
theorem dX3_laid_119 : decode cX3_laid 119 = .ok (.if_icmp .ne 7, 3) := by decide +kernel
theorem dX3_laid_122 : decode cX3_laid 122 = .ok (.iconst 1, 1) := by decide +kernel
theorem dX3_laid_123 : decode cX3_laid 123 = .ok (.goto 4, 3) := by decide +kernel
theorem dX3_laid_126 : decode cX3_laid 126 = .ok (.iconst 0, 1) := by decide +kernel
theorem dX3_laid_127 : decode cX3_laid 127 = .ok (.istore_n 3, 1) := by decide +kernel
theorem dX3_laid_128 : decode cX3_laid 128 = .ok (.iconst 0, 1) := by decide +kernel
theorem dX3_laid_129 : decode cX3_laid 129 = .ok (.istore 4, 2) := by decide +kernel
theorem dX3_laid_131 : decode cX3_laid 131 = .ok (.iload 4, 2) := by decide +kernel
theorem dX3_laid_133 : decode cX3_laid 133 = .ok (.iload_n 2, 1) := by decide +kernel
theorem dX3_laid_134 : decode cX3_laid 134 = .ok (.if_icmp .ge 15, 3) := by decide +kernel
theorem dX3_laid_137 : decode cX3_laid 137 = .ok (.aload_n 0, 1) := by decide +kernel
theorem dX3_laid_138 : decode cX3_laid 138 = .ok (.iload 4, 2) := by decide +kernel
theorem dX3_laid_140 : decode cX3_laid 140 = .ok (.invokevirtual 87, 3) := by decide +kernel
theorem dX3_laid_143 : decode cX3_laid 143 = .ok (.iinc 4 1, 3) := by decide +kernel
theorem dX3_laid_146 : decode cX3_laid 146 = .ok (.goto (-15), 3) := by decide +kernel
theorem dX3_laid_149 : decode cX3_laid 149 = .ok (.iload_n 3, 1) := by decide +kernel
theorem dX3_laid_150 : decode cX3_laid 150 = .ok (.ireturn, 1) := by decide +kernel
theorem dX3_dearest_0 : decode cX3_dearest 0 = .ok (.aload_n 0, 1) := by decide +kernel
theorem dX3_dearest_1 : decode cX3_dearest 1 = .ok (.invokevirtual 90, 3) := by decide +kernel
theorem dX3_dearest_4 : decode cX3_dearest 4 = .ok (.istore_n 1, 1) := by decide +kernel
theorem dX3_dearest_5 : decode cX3_dearest 5 = .ok (.iconst 0, 1) := by decide +kernel
theorem dX3_dearest_6 : decode cX3_dearest 6 = .ok (.istore_n 2, 1) := by decide +kernel
theorem dX3_dearest_7 : decode cX3_dearest 7 = .ok (.iload_n 2, 1) := by decide +kernel
theorem dX3_dearest_8 : decode cX3_dearest 8 = .ok (.iload_n 1, 1) := by decide +kernel
theorem dX3_dearest_9 : decode cX3_dearest 9 = .ok (.if_icmp .ge 37, 3) := by decide +kernel
theorem dX3_dearest_12 : decode cX3_dearest 12 = .ok (.aload_n 0, 1) := by decide +kernel
theorem dX3_dearest_13 : decode cX3_dearest 13 = .ok (.getfield 52, 3) := by decide +kernel
theorem dX3_dearest_16 : decode cX3_dearest 16 = .ok (.ifCond .ne 30, 3) := by decide +kernel
theorem dX3_dearest_19 : decode cX3_dearest 19 = .ok (.aload_n 0, 1) := by decide +kernel
theorem dX3_dearest_20 : decode cX3_dearest 20 = .ok (.getfield 34, 3) := by decide +kernel
theorem dX3_dearest_23 : decode cX3_dearest 23 = .ok (.iload_n 2, 1) := by decide +kernel
theorem dX3_dearest_24 : decode cX3_dearest 24 = .ok (.iaload, 1) := by decide +kernel
theorem dX3_dearest_25 : decode cX3_dearest 25 = .ok (.sipush 255, 3) := by decide +kernel
theorem dX3_dearest_28 : decode cX3_dearest 28 = .ok (.iand, 1) := by decide +kernel
theorem dX3_dearest_29 : decode cX3_dearest 29 = .ok (.istore_n 3, 1) := by decide +kernel
theorem dX3_dearest_30 : decode cX3_dearest 30 = .ok (.aload_n 0, 1) := by decide +kernel
theorem dX3_dearest_31 : decode cX3_dearest 31 = .ok (.iload_n 3, 1) := by decide +kernel
theorem dX3_dearest_32 : decode cX3_dearest 32 = .ok (.invokevirtual 94, 3) := by decide +kernel
theorem dX3_dearest_35 : decode cX3_dearest 35 = .ok (.ifCond .eq 5, 3) := by decide +kernel
theorem dX3_dearest_38 : decode cX3_dearest 38 = .ok (.iload_n 3, 1) := by decide +kernel
theorem dX3_dearest_39 : decode cX3_dearest 39 = .ok (.ireturn, 1) := by decide +kernel
theorem dX3_dearest_40 : decode cX3_dearest 40 = .ok (.iinc 2 1, 3) := by decide +kernel
theorem dX3_dearest_43 : decode cX3_dearest 43 = .ok (.goto (-36), 3) := by decide +kernel
theorem dX3_dearest_46 : decode cX3_dearest 46 = .ok (.iconst 0, 1) := by decide +kernel
theorem dX3_dearest_47 : decode cX3_dearest 47 = .ok (.ireturn, 1) := by decide +kernel
theorem dX3_findUnlikeTicks_0 : decode cX3_findUnlikeTicks 0 = .ok (.aload_n 0, 1) := by decide +kernel
theorem dX3_findUnlikeTicks_1 : decode cX3_findUnlikeTicks 1 = .ok (.getfield 12, 3) := by decide +kernel
theorem dX3_findUnlikeTicks_4 : decode cX3_findUnlikeTicks 4 = .ok (.iconst 0, 1) := by decide +kernel
theorem dX3_findUnlikeTicks_5 : decode cX3_findUnlikeTicks 5 = .ok (.putfield 98, 3) := by decide +kernel
theorem dX3_findUnlikeTicks_8 : decode cX3_findUnlikeTicks 8 = .ok (.iconst 0, 1) := by decide +kernel
theorem dX3_findUnlikeTicks_9 : decode cX3_findUnlikeTicks 9 = .ok (.istore_n 1, 1) := by decide +kernel
theorem dX3_findUnlikeTicks_10 : decode cX3_findUnlikeTicks 10 = .ok (.iload_n 1, 1) := by decide +kernel
theorem dX3_findUnlikeTicks_11 : decode cX3_findUnlikeTicks 11 = .ok (.bipush 8, 2) := by decide +kernel
theorem dX3_findUnlikeTicks_13 : decode cX3_findUnlikeTicks 13 = .ok (.if_icmp .ge 16, 3) := by decide +kernel
theorem dX3_findUnlikeTicks_16 : decode cX3_findUnlikeTicks 16 = .ok (.aload_n 0, 1) := by decide +kernel
theorem dX3_findUnlikeTicks_17 : decode cX3_findUnlikeTicks 17 = .ok (.getfield 22, 3) := by decide +kernel
theorem dX3_findUnlikeTicks_20 : decode cX3_findUnlikeTicks 20 = .ok (.iload_n 1, 1) := by decide +kernel
theorem dX3_findUnlikeTicks_21 : decode cX3_findUnlikeTicks 21 = .ok (.iconst 0, 1) := by decide +kernel
theorem dX3_findUnlikeTicks_22 : decode cX3_findUnlikeTicks 22 = .ok (.iastore, 1) := by decide +kernel
theorem dX3_findUnlikeTicks_23 : decode cX3_findUnlikeTicks 23 = .ok (.iinc 1 1, 3) := by decide +kernel
theorem dX3_findUnlikeTicks_26 : decode cX3_findUnlikeTicks 26 = .ok (.goto (-16), 3) := by decide +kernel
theorem dX3_findUnlikeTicks_29 : decode cX3_findUnlikeTicks 29 = .ok (.iconst 0, 1) := by decide +kernel
theorem dX3_findUnlikeTicks_30 : decode cX3_findUnlikeTicks 30 = .ok (.istore_n 1, 1) := by decide +kernel
theorem dX3_findUnlikeTicks_31 : decode cX3_findUnlikeTicks 31 = .ok (.iload_n 1, 1) := by decide +kernel
theorem dX3_findUnlikeTicks_32 : decode cX3_findUnlikeTicks 32 = .ok (.bipush 24, 2) := by decide +kernel
theorem dX3_findUnlikeTicks_34 : decode cX3_findUnlikeTicks 34 = .ok (.if_icmp .ge 28, 3) := by decide +kernel
theorem dX3_findUnlikeTicks_37 : decode cX3_findUnlikeTicks 37 = .ok (.aload_n 0, 1) := by decide +kernel
theorem dX3_findUnlikeTicks_38 : decode cX3_findUnlikeTicks 38 = .ok (.iload_n 1, 1) := by decide +kernel
theorem dX3_findUnlikeTicks_39 : decode cX3_findUnlikeTicks 39 = .ok (.invokevirtual 101, 3) := by decide +kernel
theorem dX3_findUnlikeTicks_42 : decode cX3_findUnlikeTicks 42 = .ok (.istore_n 2, 1) := by decide +kernel
theorem dX3_findUnlikeTicks_43 : decode cX3_findUnlikeTicks 43 = .ok (.aload_n 0, 1) := by decide +kernel
theorem dX3_findUnlikeTicks_44 : decode cX3_findUnlikeTicks 44 = .ok (.iload_n 2, 1) := by decide +kernel
theorem dX3_findUnlikeTicks_45 : decode cX3_findUnlikeTicks 45 = .ok (.invokevirtual 105, 3) := by decide +kernel
theorem dX3_findUnlikeTicks_48 : decode cX3_findUnlikeTicks 48 = .ok (.ifCond .ne 8, 3) := by decide +kernel
theorem dX3_findUnlikeTicks_51 : decode cX3_findUnlikeTicks 51 = .ok (.aload_n 0, 1) := by decide +kernel
theorem dX3_findUnlikeTicks_52 : decode cX3_findUnlikeTicks 52 = .ok (.iload_n 2, 1) := by decide +kernel
theorem dX3_findUnlikeTicks_53 : decode cX3_findUnlikeTicks 53 = .ok (.invokevirtual 108, 3) := by decide +kernel
theorem dX3_findUnlikeTicks_56 : decode cX3_findUnlikeTicks 56 = .ok (.iinc 1 1, 3) := by decide +kernel
theorem dX3_findUnlikeTicks_59 : decode cX3_findUnlikeTicks 59 = .ok (.goto (-28), 3) := by decide +kernel
theorem dX3_findUnlikeTicks_62 : decode cX3_findUnlikeTicks 62 = .ok (.return_, 1) := by decide +kernel
theorem dX3_countingAt_0 : decode cX3_countingAt 0 = .ok (.iconst 0, 1) := by decide +kernel
theorem dX3_countingAt_1 : decode cX3_countingAt 1 = .ok (.istore_n 2, 1) := by decide +kernel
theorem dX3_countingAt_2 : decode cX3_countingAt 2 = .ok (.iconst 0, 1) := by decide +kernel
theorem dX3_countingAt_3 : decode cX3_countingAt 3 = .ok (.istore_n 3, 1) := by decide +kernel
theorem dX3_countingAt_4 : decode cX3_countingAt 4 = .ok (.iload_n 3, 1) := by decide +kernel
theorem dX3_countingAt_5 : decode cX3_countingAt 5 = .ok (.aload_n 0, 1) := by decide +kernel
theorem dX3_countingAt_6 : decode cX3_countingAt 6 = .ok (.getfield 44, 3) := by decide +kernel
theorem dX3_countingAt_9 : decode cX3_countingAt 9 = .ok (.getfield 56, 3) := by decide +kernel
theorem dX3_countingAt_12 : decode cX3_countingAt 12 = .ok (.if_icmp .ge 33, 3) := by decide +kernel
theorem dX3_countingAt_15 : decode cX3_countingAt 15 = .ok (.aload_n 0, 1) := by decide +kernel
theorem dX3_countingAt_16 : decode cX3_countingAt 16 = .ok (.getfield 44, 3) := by decide +kernel
theorem dX3_countingAt_19 : decode cX3_countingAt 19 = .ok (.iload_n 3, 1) := by decide +kernel
theorem dX3_countingAt_20 : decode cX3_countingAt 20 = .ok (.invokevirtual 111, 3) := by decide +kernel
theorem dX3_countingAt_23 : decode cX3_countingAt 23 = .ok (.getfield 115, 3) := by decide +kernel
theorem dX3_countingAt_26 : decode cX3_countingAt 26 = .ok (.iload_n 1, 1) := by decide +kernel
theorem dX3_countingAt_27 : decode cX3_countingAt 27 = .ok (.invokestatic 118, 3) := by decide +kernel
theorem dX3_countingAt_30 : decode cX3_countingAt 30 = .ok (.ifCond .eq 9, 3) := by decide +kernel
theorem dX3_countingAt_33 : decode cX3_countingAt 33 = .ok (.iload_n 2, 1) := by decide +kernel
theorem dX3_countingAt_34 : decode cX3_countingAt 34 = .ok (.iconst 1, 1) := by decide +kernel
theorem dX3_countingAt_35 : decode cX3_countingAt 35 = .ok (.iload_n 3, 1) := by decide +kernel
theorem dX3_countingAt_36 : decode cX3_countingAt 36 = .ok (.ishl, 1) := by decide +kernel
theorem dX3_countingAt_37 : decode cX3_countingAt 37 = .ok (.ior, 1) := by decide +kernel
theorem dX3_countingAt_38 : decode cX3_countingAt 38 = .ok (.istore_n 2, 1) := by decide +kernel
theorem dX3_countingAt_39 : decode cX3_countingAt 39 = .ok (.iinc 3 1, 3) := by decide +kernel
theorem dX3_countingAt_42 : decode cX3_countingAt 42 = .ok (.goto (-38), 3) := by decide +kernel
theorem dX3_countingAt_45 : decode cX3_countingAt 45 = .ok (.iload_n 2, 1) := by decide +kernel
theorem dX3_countingAt_46 : decode cX3_countingAt 46 = .ok (.ireturn, 1) := by decide +kernel
theorem dX3_isKnown_0 : decode cX3_isKnown 0 = .ok (.iconst 0, 1) := by decide +kernel
theorem dX3_isKnown_1 : decode cX3_isKnown 1 = .ok (.istore_n 2, 1) := by decide +kernel
theorem dX3_isKnown_2 : decode cX3_isKnown 2 = .ok (.iload_n 2, 1) := by decide +kernel
theorem dX3_isKnown_3 : decode cX3_isKnown 3 = .ok (.aload_n 0, 1) := by decide +kernel
theorem dX3_isKnown_4 : decode cX3_isKnown 4 = .ok (.getfield 12, 3) := by decide +kernel
theorem dX3_isKnown_7 : decode cX3_isKnown 7 = .ok (.getfield 98, 3) := by decide +kernel
theorem dX3_isKnown_10 : decode cX3_isKnown 10 = .ok (.if_icmp .ge 21, 3) := by decide +kernel
theorem dX3_isKnown_13 : decode cX3_isKnown 13 = .ok (.aload_n 0, 1) := by decide +kernel
theorem dX3_isKnown_14 : decode cX3_isKnown 14 = .ok (.getfield 18, 3) := by decide +kernel
theorem dX3_isKnown_17 : decode cX3_isKnown 17 = .ok (.iload_n 2, 1) := by decide +kernel
theorem dX3_isKnown_18 : decode cX3_isKnown 18 = .ok (.iaload, 1) := by decide +kernel
theorem dX3_isKnown_19 : decode cX3_isKnown 19 = .ok (.iload_n 1, 1) := by decide +kernel
theorem dX3_isKnown_20 : decode cX3_isKnown 20 = .ok (.if_icmp .ne 5, 3) := by decide +kernel
theorem dX3_isKnown_23 : decode cX3_isKnown 23 = .ok (.iconst 1, 1) := by decide +kernel
theorem dX3_isKnown_24 : decode cX3_isKnown 24 = .ok (.ireturn, 1) := by decide +kernel
theorem dX3_isKnown_25 : decode cX3_isKnown 25 = .ok (.iinc 2 1, 3) := by decide +kernel
theorem dX3_isKnown_28 : decode cX3_isKnown 28 = .ok (.goto (-26), 3) := by decide +kernel
theorem dX3_isKnown_31 : decode cX3_isKnown 31 = .ok (.iconst 0, 1) := by decide +kernel
theorem dX3_isKnown_32 : decode cX3_isKnown 32 = .ok (.ireturn, 1) := by decide +kernel
theorem dX3_note_0 : decode cX3_note 0 = .ok (.aload_n 0, 1) := by decide +kernel
theorem dX3_note_1 : decode cX3_note 1 = .ok (.getfield 12, 3) := by decide +kernel
theorem dX3_note_4 : decode cX3_note 4 = .ok (.getfield 98, 3) := by decide +kernel
theorem dX3_note_7 : decode cX3_note 7 = .ok (.istore_n 2, 1) := by decide +kernel
theorem dX3_note_8 : decode cX3_note 8 = .ok (.aload_n 0, 1) := by decide +kernel
theorem dX3_note_9 : decode cX3_note 9 = .ok (.getfield 18, 3) := by decide +kernel
theorem dX3_note_12 : decode cX3_note 12 = .ok (.iload_n 2, 1) := by decide +kernel
theorem dX3_note_13 : decode cX3_note 13 = .ok (.iload_n 1, 1) := by decide +kernel
theorem dX3_note_14 : decode cX3_note 14 = .ok (.iastore, 1) := by decide +kernel
theorem dX3_note_15 : decode cX3_note 15 = .ok (.iconst 0, 1) := by decide +kernel
theorem dX3_note_16 : decode cX3_note 16 = .ok (.istore_n 3, 1) := by decide +kernel
theorem dX3_note_17 : decode cX3_note 17 = .ok (.iload_n 3, 1) := by decide +kernel
theorem dX3_note_18 : decode cX3_note 18 = .ok (.aload_n 0, 1) := by decide +kernel
theorem dX3_note_19 : decode cX3_note 19 = .ok (.getfield 44, 3) := by decide +kernel
theorem dX3_note_22 : decode cX3_note 22 = .ok (.getfield 56, 3) := by decide +kernel
theorem dX3_note_25 : decode cX3_note 25 = .ok (.if_icmp .ge 29, 3) := by decide +kernel
theorem dX3_note_28 : decode cX3_note 28 = .ok (.iload_n 1, 1) := by decide +kernel
theorem dX3_note_29 : decode cX3_note 29 = .ok (.iload_n 3, 1) := by decide +kernel
theorem dX3_note_30 : decode cX3_note 30 = .ok (.invokestatic 118, 3) := by decide +kernel
theorem dX3_note_33 : decode cX3_note 33 = .ok (.ifCond .eq 15, 3) := by decide +kernel
theorem dX3_note_36 : decode cX3_note 36 = .ok (.aload_n 0, 1) := by decide +kernel
theorem dX3_note_37 : decode cX3_note 37 = .ok (.getfield 22, 3) := by decide +kernel
theorem dX3_note_40 : decode cX3_note 40 = .ok (.iload_n 3, 1) := by decide +kernel
theorem dX3_note_41 : decode cX3_note 41 = .ok (.dup2, 1) := by decide +kernel
theorem dX3_note_42 : decode cX3_note 42 = .ok (.iaload, 1) := by decide +kernel
theorem dX3_note_43 : decode cX3_note 43 = .ok (.iconst 1, 1) := by decide +kernel
theorem dX3_note_44 : decode cX3_note 44 = .ok (.iload_n 2, 1) := by decide +kernel
theorem dX3_note_45 : decode cX3_note 45 = .ok (.ishl, 1) := by decide +kernel
theorem dX3_note_46 : decode cX3_note 46 = .ok (.ior, 1) := by decide +kernel
theorem dX3_note_47 : decode cX3_note 47 = .ok (.iastore, 1) := by decide +kernel
theorem dX3_note_48 : decode cX3_note 48 = .ok (.iinc 3 1, 3) := by decide +kernel
theorem dX3_note_51 : decode cX3_note 51 = .ok (.goto (-34), 3) := by decide +kernel
theorem dX3_note_54 : decode cX3_note 54 = .ok (.aload_n 0, 1) := by decide +kernel
theorem dX3_note_55 : decode cX3_note 55 = .ok (.getfield 12, 3) := by decide +kernel
theorem dX3_note_58 : decode cX3_note 58 = .ok (.dup, 1) := by decide +kernel
theorem dX3_note_59 : decode cX3_note 59 = .ok (.getfield 98, 3) := by decide +kernel
theorem dX3_note_62 : decode cX3_note 62 = .ok (.iconst 1, 1) := by decide +kernel
theorem dX3_note_63 : decode cX3_note 63 = .ok (.iadd, 1) := by decide +kernel
theorem dX3_note_64 : decode cX3_note 64 = .ok (.putfield 98, 3) := by decide +kernel
theorem dX3_note_67 : decode cX3_note 67 = .ok (.return_, 1) := by decide +kernel
theorem dX3_gatherMembers_0 : decode cX3_gatherMembers 0 = .ok (.aload_n 0, 1) := by decide +kernel
theorem dX3_gatherMembers_1 : decode cX3_gatherMembers 1 = .ok (.iconst 0, 1) := by decide +kernel
theorem dX3_gatherMembers_2 : decode cX3_gatherMembers 2 = .ok (.putfield 78, 3) := by decide +kernel
theorem dX3_gatherMembers_5 : decode cX3_gatherMembers 5 = .ok (.iconst 0, 1) := by decide +kernel
theorem dX3_gatherMembers_6 : decode cX3_gatherMembers 6 = .ok (.istore_n 2, 1) := by decide +kernel
theorem dX3_gatherMembers_7 : decode cX3_gatherMembers 7 = .ok (.iload_n 2, 1) := by decide +kernel
theorem dX3_gatherMembers_8 : decode cX3_gatherMembers 8 = .ok (.aload_n 0, 1) := by decide +kernel
theorem dX3_gatherMembers_9 : decode cX3_gatherMembers 9 = .ok (.getfield 44, 3) := by decide +kernel
theorem dX3_gatherMembers_12 : decode cX3_gatherMembers 12 = .ok (.getfield 56, 3) := by decide +kernel
theorem dX3_gatherMembers_15 : decode cX3_gatherMembers 15 = .ok (.if_icmp .ge 47, 3) := by decide +kernel
theorem dX3_gatherMembers_18 : decode cX3_gatherMembers 18 = .ok (.iload_n 1, 1) := by decide +kernel
theorem dX3_gatherMembers_19 : decode cX3_gatherMembers 19 = .ok (.iload_n 2, 1) := by decide +kernel
theorem dX3_gatherMembers_20 : decode cX3_gatherMembers 20 = .ok (.invokestatic 118, 3) := by decide +kernel
theorem dX3_gatherMembers_23 : decode cX3_gatherMembers 23 = .ok (.ifCond .eq 33, 3) := by decide +kernel
theorem dX3_gatherMembers_26 : decode cX3_gatherMembers 26 = .ok (.aload_n 0, 1) := by decide +kernel
theorem dX3_gatherMembers_27 : decode cX3_gatherMembers 27 = .ok (.getfield 25, 3) := by decide +kernel
theorem dX3_gatherMembers_30 : decode cX3_gatherMembers 30 = .ok (.aload_n 0, 1) := by decide +kernel
theorem dX3_gatherMembers_31 : decode cX3_gatherMembers 31 = .ok (.getfield 78, 3) := by decide +kernel
theorem dX3_gatherMembers_34 : decode cX3_gatherMembers 34 = .ok (.iload_n 2, 1) := by decide +kernel
theorem dX3_gatherMembers_35 : decode cX3_gatherMembers 35 = .ok (.iastore, 1) := by decide +kernel
theorem dX3_gatherMembers_36 : decode cX3_gatherMembers 36 = .ok (.aload_n 0, 1) := by decide +kernel
theorem dX3_gatherMembers_37 : decode cX3_gatherMembers 37 = .ok (.getfield 28, 3) := by decide +kernel
theorem dX3_gatherMembers_40 : decode cX3_gatherMembers 40 = .ok (.aload_n 0, 1) := by decide +kernel
theorem dX3_gatherMembers_41 : decode cX3_gatherMembers 41 = .ok (.getfield 78, 3) := by decide +kernel
theorem dX3_gatherMembers_44 : decode cX3_gatherMembers 44 = .ok (.iconst (-1), 1) := by decide +kernel
theorem dX3_gatherMembers_45 : decode cX3_gatherMembers 45 = .ok (.iastore, 1) := by decide +kernel
theorem dX3_gatherMembers_46 : decode cX3_gatherMembers 46 = .ok (.aload_n 0, 1) := by decide +kernel
theorem dX3_gatherMembers_47 : decode cX3_gatherMembers 47 = .ok (.dup, 1) := by decide +kernel
theorem dX3_gatherMembers_48 : decode cX3_gatherMembers 48 = .ok (.getfield 78, 3) := by decide +kernel
theorem dX3_gatherMembers_51 : decode cX3_gatherMembers 51 = .ok (.iconst 1, 1) := by decide +kernel
theorem dX3_gatherMembers_52 : decode cX3_gatherMembers 52 = .ok (.iadd, 1) := by decide +kernel
theorem dX3_gatherMembers_53 : decode cX3_gatherMembers 53 = .ok (.putfield 78, 3) := by decide +kernel
theorem dX3_gatherMembers_56 : decode cX3_gatherMembers 56 = .ok (.iinc 2 1, 3) := by decide +kernel
theorem dX3_gatherMembers_59 : decode cX3_gatherMembers 59 = .ok (.goto (-52), 3) := by decide +kernel
theorem dX3_gatherMembers_62 : decode cX3_gatherMembers 62 = .ok (.return_, 1) := by decide +kernel
theorem dX3_nextPlace_0 : decode cX3_nextPlace 0 = .ok (.aload_n 0, 1) := by decide +kernel
theorem dX3_nextPlace_1 : decode cX3_nextPlace 1 = .ok (.getfield 44, 3) := by decide +kernel
theorem dX3_nextPlace_4 : decode cX3_nextPlace 4 = .ok (.iload_n 1, 1) := by decide +kernel
theorem dX3_nextPlace_5 : decode cX3_nextPlace 5 = .ok (.invokevirtual 111, 3) := by decide +kernel
theorem dX3_nextPlace_8 : decode cX3_nextPlace 8 = .ok (.astore_n 3, 1) := by decide +kernel
theorem dX3_nextPlace_9 : decode cX3_nextPlace 9 = .ok (.iload_n 2, 1) := by decide +kernel
theorem dX3_nextPlace_10 : decode cX3_nextPlace 10 = .ok (.istore 4, 2) := by decide +kernel
theorem dX3_nextPlace_12 : decode cX3_nextPlace 12 = .ok (.iload 4, 2) := by decide +kernel
theorem dX3_nextPlace_14 : decode cX3_nextPlace 14 = .ok (.aload_n 3, 1) := by decide +kernel
theorem dX3_nextPlace_15 : decode cX3_nextPlace 15 = .ok (.getfield 122, 3) := by decide +kernel
theorem dX3_nextPlace_18 : decode cX3_nextPlace 18 = .ok (.getfield 126, 3) := by decide +kernel
theorem dX3_nextPlace_21 : decode cX3_nextPlace 21 = .ok (.if_icmp .ge 96, 3) := by decide +kernel
theorem dX3_nextPlace_24 : decode cX3_nextPlace 24 = .ok (.aload_n 0, 1) := by decide +kernel
theorem dX3_nextPlace_25 : decode cX3_nextPlace 25 = .ok (.getfield 48, 3) := by decide +kernel
theorem dX3_nextPlace_28 : decode cX3_nextPlace 28 = .ok (.sipush 2000, 3) := by decide +kernel
theorem dX3_nextPlace_31 : decode cX3_nextPlace 31 = .ok (.if_icmp .lt 10, 3) := by decide +kernel
theorem dX3_nextPlace_34 : decode cX3_nextPlace 34 = .ok (.aload_n 0, 1) := by decide +kernel
theorem dX3_nextPlace_35 : decode cX3_nextPlace 35 = .ok (.iconst 1, 1) := by decide +kernel
theorem dX3_nextPlace_36 : decode cX3_nextPlace 36 = .ok (.putfield 52, 3) := by decide +kernel
theorem dX3_nextPlace_39 : decode cX3_nextPlace 39 = .ok (.iconst (-1), 1) := by decide +kernel
theorem dX3_nextPlace_40 : decode cX3_nextPlace 40 = .ok (.ireturn, 1) := by decide +kernel
theorem dX3_nextPlace_41 : decode cX3_nextPlace 41 = .ok (.aload_n 0, 1) := by decide +kernel
theorem dX3_nextPlace_42 : decode cX3_nextPlace 42 = .ok (.dup, 1) := by decide +kernel
theorem dX3_nextPlace_43 : decode cX3_nextPlace 43 = .ok (.getfield 48, 3) := by decide +kernel
theorem dX3_nextPlace_46 : decode cX3_nextPlace 46 = .ok (.iconst 1, 1) := by decide +kernel
theorem dX3_nextPlace_47 : decode cX3_nextPlace 47 = .ok (.iadd, 1) := by decide +kernel
theorem dX3_nextPlace_48 : decode cX3_nextPlace 48 = .ok (.putfield 48, 3) := by decide +kernel
theorem dX3_nextPlace_51 : decode cX3_nextPlace 51 = .ok (.aload_n 3, 1) := by decide +kernel
theorem dX3_nextPlace_52 : decode cX3_nextPlace 52 = .ok (.getfield 122, 3) := by decide +kernel
theorem dX3_nextPlace_55 : decode cX3_nextPlace 55 = .ok (.iload 4, 2) := by decide +kernel
theorem dX3_nextPlace_57 : decode cX3_nextPlace 57 = .ok (.invokevirtual 129, 3) := by decide +kernel
theorem dX3_nextPlace_60 : decode cX3_nextPlace 60 = .ok (.istore 5, 2) := by decide +kernel
theorem dX3_nextPlace_62 : decode cX3_nextPlace 62 = .ok (.aload_n 0, 1) := by decide +kernel
theorem dX3_nextPlace_63 : decode cX3_nextPlace 63 = .ok (.getfield 12, 3) := by decide +kernel
theorem dX3_nextPlace_66 : decode cX3_nextPlace 66 = .ok (.aload_n 0, 1) := by decide +kernel
theorem dX3_nextPlace_67 : decode cX3_nextPlace 67 = .ok (.getfield 40, 3) := by decide +kernel
theorem dX3_nextPlace_70 : decode cX3_nextPlace 70 = .ok (.aload_n 3, 1) := by decide +kernel
theorem dX3_nextPlace_71 : decode cX3_nextPlace 71 = .ok (.iload 5, 2) := by decide +kernel
theorem dX3_nextPlace_73 : decode cX3_nextPlace 73 = .ok (.aload_n 0, 1) := by decide +kernel
theorem dX3_nextPlace_74 : decode cX3_nextPlace 74 = .ok (.getfield 22, 3) := by decide +kernel
theorem dX3_nextPlace_77 : decode cX3_nextPlace 77 = .ok (.iload_n 1, 1) := by decide +kernel
theorem dX3_nextPlace_78 : decode cX3_nextPlace 78 = .ok (.iaload, 1) := by decide +kernel
theorem dX3_nextPlace_79 : decode cX3_nextPlace 79 = .ok (.invokevirtual 132, 3) := by decide +kernel
theorem dX3_nextPlace_82 : decode cX3_nextPlace 82 = .ok (.ifCond .eq 29, 3) := by decide +kernel
theorem dX3_nextPlace_85 : decode cX3_nextPlace 85 = .ok (.aload_n 0, 1) := by decide +kernel
