theorem dX3_nextPlace_86 : decode cX3_nextPlace 86 = .ok (.getfield 12, 3) := by decide +kernel
theorem dX3_nextPlace_89 : decode cX3_nextPlace 89 = .ok (.aload_n 0, 1) := by decide +kernel
theorem dX3_nextPlace_90 : decode cX3_nextPlace 90 = .ok (.getfield 40, 3) := by decide +kernel
theorem dX3_nextPlace_93 : decode cX3_nextPlace 93 = .ok (.aload_n 3, 1) := by decide +kernel
theorem dX3_nextPlace_94 : decode cX3_nextPlace 94 = .ok (.iload 5, 2) := by decide +kernel
theorem dX3_nextPlace_96 : decode cX3_nextPlace 96 = .ok (.aload_n 0, 1) := by decide +kernel
theorem dX3_nextPlace_97 : decode cX3_nextPlace 97 = .ok (.getfield 22, 3) := by decide +kernel
theorem dX3_nextPlace_100 : decode cX3_nextPlace 100 = .ok (.iload_n 1, 1) := by decide +kernel
theorem dX3_nextPlace_101 : decode cX3_nextPlace 101 = .ok (.iaload, 1) := by decide +kernel
theorem dX3_nextPlace_102 : decode cX3_nextPlace 102 = .ok (.invokevirtual 136, 3) := by decide +kernel
theorem dX3_nextPlace_105 : decode cX3_nextPlace 105 = .ok (.ifCond .eq 6, 3) := by decide +kernel
theorem dX3_nextPlace_108 : decode cX3_nextPlace 108 = .ok (.iload 4, 2) := by decide +kernel
theorem dX3_nextPlace_110 : decode cX3_nextPlace 110 = .ok (.ireturn, 1) := by decide +kernel
theorem dX3_nextPlace_111 : decode cX3_nextPlace 111 = .ok (.iinc 4 1, 3) := by decide +kernel
theorem dX3_nextPlace_114 : decode cX3_nextPlace 114 = .ok (.goto (-102), 3) := by decide +kernel
theorem dX3_nextPlace_117 : decode cX3_nextPlace 117 = .ok (.iconst (-1), 1) := by decide +kernel
theorem dX3_nextPlace_118 : decode cX3_nextPlace 118 = .ok (.ireturn, 1) := by decide +kernel
theorem dX3_put_0 : decode cX3_put 0 = .ok (.aload_n 0, 1) := by decide +kernel
theorem dX3_put_1 : decode cX3_put 1 = .ok (.getfield 31, 3) := by decide +kernel
theorem dX3_put_4 : decode cX3_put 4 = .ok (.iload_n 1, 1) := by decide +kernel
theorem dX3_put_5 : decode cX3_put 5 = .ok (.aload_n 0, 1) := by decide +kernel
theorem dX3_put_6 : decode cX3_put 6 = .ok (.getfield 44, 3) := by decide +kernel
theorem dX3_put_9 : decode cX3_put 9 = .ok (.iload_n 1, 1) := by decide +kernel
theorem dX3_put_10 : decode cX3_put 10 = .ok (.invokevirtual 111, 3) := by decide +kernel
theorem dX3_put_13 : decode cX3_put 13 = .ok (.getfield 122, 3) := by decide +kernel
theorem dX3_put_16 : decode cX3_put 16 = .ok (.iload_n 2, 1) := by decide +kernel
theorem dX3_put_17 : decode cX3_put 17 = .ok (.invokevirtual 129, 3) := by decide +kernel
theorem dX3_put_20 : decode cX3_put 20 = .ok (.iastore, 1) := by decide +kernel
theorem dX3_put_21 : decode cX3_put 21 = .ok (.aload_n 0, 1) := by decide +kernel
theorem dX3_put_22 : decode cX3_put 22 = .ok (.getfield 12, 3) := by decide +kernel
theorem dX3_put_25 : decode cX3_put 25 = .ok (.aload_n 0, 1) := by decide +kernel
theorem dX3_put_26 : decode cX3_put 26 = .ok (.getfield 40, 3) := by decide +kernel
theorem dX3_put_29 : decode cX3_put 29 = .ok (.aload_n 0, 1) := by decide +kernel
theorem dX3_put_30 : decode cX3_put 30 = .ok (.getfield 44, 3) := by decide +kernel
theorem dX3_put_33 : decode cX3_put 33 = .ok (.iload_n 1, 1) := by decide +kernel
theorem dX3_put_34 : decode cX3_put 34 = .ok (.invokevirtual 111, 3) := by decide +kernel
theorem dX3_put_37 : decode cX3_put 37 = .ok (.aload_n 0, 1) := by decide +kernel
theorem dX3_put_38 : decode cX3_put 38 = .ok (.getfield 31, 3) := by decide +kernel
theorem dX3_put_41 : decode cX3_put 41 = .ok (.iload_n 1, 1) := by decide +kernel
theorem dX3_put_42 : decode cX3_put 42 = .ok (.iaload, 1) := by decide +kernel
theorem dX3_put_43 : decode cX3_put 43 = .ok (.aload_n 0, 1) := by decide +kernel
theorem dX3_put_44 : decode cX3_put 44 = .ok (.getfield 22, 3) := by decide +kernel
theorem dX3_put_47 : decode cX3_put 47 = .ok (.iload_n 1, 1) := by decide +kernel
theorem dX3_put_48 : decode cX3_put 48 = .ok (.iaload, 1) := by decide +kernel
theorem dX3_put_49 : decode cX3_put 49 = .ok (.iconst 1, 1) := by decide +kernel
theorem dX3_put_50 : decode cX3_put 50 = .ok (.invokevirtual 139, 3) := by decide +kernel
theorem dX3_put_53 : decode cX3_put 53 = .ok (.return_, 1) := by decide +kernel
theorem dX3_takeBack_0 : decode cX3_takeBack 0 = .ok (.iload_n 1, 1) := by decide +kernel
theorem dX3_takeBack_1 : decode cX3_takeBack 1 = .ok (.ifCond .lt 42, 3) := by decide +kernel
theorem dX3_takeBack_4 : decode cX3_takeBack 4 = .ok (.aload_n 0, 1) := by decide +kernel
theorem dX3_takeBack_5 : decode cX3_takeBack 5 = .ok (.getfield 25, 3) := by decide +kernel
theorem dX3_takeBack_8 : decode cX3_takeBack 8 = .ok (.iload_n 1, 1) := by decide +kernel
theorem dX3_takeBack_9 : decode cX3_takeBack 9 = .ok (.iaload, 1) := by decide +kernel
theorem dX3_takeBack_10 : decode cX3_takeBack 10 = .ok (.istore_n 2, 1) := by decide +kernel
theorem dX3_takeBack_11 : decode cX3_takeBack 11 = .ok (.aload_n 0, 1) := by decide +kernel
theorem dX3_takeBack_12 : decode cX3_takeBack 12 = .ok (.getfield 12, 3) := by decide +kernel
theorem dX3_takeBack_15 : decode cX3_takeBack 15 = .ok (.aload_n 0, 1) := by decide +kernel
theorem dX3_takeBack_16 : decode cX3_takeBack 16 = .ok (.getfield 40, 3) := by decide +kernel
theorem dX3_takeBack_19 : decode cX3_takeBack 19 = .ok (.aload_n 0, 1) := by decide +kernel
theorem dX3_takeBack_20 : decode cX3_takeBack 20 = .ok (.getfield 44, 3) := by decide +kernel
theorem dX3_takeBack_23 : decode cX3_takeBack 23 = .ok (.iload_n 2, 1) := by decide +kernel
theorem dX3_takeBack_24 : decode cX3_takeBack 24 = .ok (.invokevirtual 111, 3) := by decide +kernel
theorem dX3_takeBack_27 : decode cX3_takeBack 27 = .ok (.aload_n 0, 1) := by decide +kernel
theorem dX3_takeBack_28 : decode cX3_takeBack 28 = .ok (.getfield 31, 3) := by decide +kernel
theorem dX3_takeBack_31 : decode cX3_takeBack 31 = .ok (.iload_n 2, 1) := by decide +kernel
theorem dX3_takeBack_32 : decode cX3_takeBack 32 = .ok (.iaload, 1) := by decide +kernel
theorem dX3_takeBack_33 : decode cX3_takeBack 33 = .ok (.aload_n 0, 1) := by decide +kernel
theorem dX3_takeBack_34 : decode cX3_takeBack 34 = .ok (.getfield 22, 3) := by decide +kernel
theorem dX3_takeBack_37 : decode cX3_takeBack 37 = .ok (.iload_n 2, 1) := by decide +kernel
theorem dX3_takeBack_38 : decode cX3_takeBack 38 = .ok (.iaload, 1) := by decide +kernel
theorem dX3_takeBack_39 : decode cX3_takeBack 39 = .ok (.iconst (-1), 1) := by decide +kernel
theorem dX3_takeBack_40 : decode cX3_takeBack 40 = .ok (.invokevirtual 139, 3) := by decide +kernel
theorem dX3_takeBack_43 : decode cX3_takeBack 43 = .ok (.return_, 1) := by decide +kernel
theorem dX3_orderSets_0 : decode cX3_orderSets 0 = .ok (.aload_n 0, 1) := by decide +kernel
theorem dX3_orderSets_1 : decode cX3_orderSets 1 = .ok (.getfield 34, 3) := by decide +kernel
theorem dX3_orderSets_4 : decode cX3_orderSets 4 = .ok (.iconst 0, 1) := by decide +kernel
theorem dX3_orderSets_5 : decode cX3_orderSets 5 = .ok (.ldc 143, 2) := by decide +kernel
theorem dX3_orderSets_7 : decode cX3_orderSets 7 = .ok (.iastore, 1) := by decide +kernel
theorem dX3_orderSets_8 : decode cX3_orderSets 8 = .ok (.iconst 1, 1) := by decide +kernel
theorem dX3_orderSets_9 : decode cX3_orderSets 9 = .ok (.istore_n 1, 1) := by decide +kernel
theorem dX3_orderSets_10 : decode cX3_orderSets 10 = .ok (.iconst 0, 1) := by decide +kernel
theorem dX3_orderSets_11 : decode cX3_orderSets 11 = .ok (.istore_n 2, 1) := by decide +kernel
theorem dX3_orderSets_12 : decode cX3_orderSets 12 = .ok (.iload_n 2, 1) := by decide +kernel
theorem dX3_orderSets_13 : decode cX3_orderSets 13 = .ok (.aload_n 0, 1) := by decide +kernel
theorem dX3_orderSets_14 : decode cX3_orderSets 14 = .ok (.getfield 44, 3) := by decide +kernel
theorem dX3_orderSets_17 : decode cX3_orderSets 17 = .ok (.getfield 56, 3) := by decide +kernel
theorem dX3_orderSets_20 : decode cX3_orderSets 20 = .ok (.if_icmp .ge 37, 3) := by decide +kernel
theorem dX3_orderSets_23 : decode cX3_orderSets 23 = .ok (.aload_n 0, 1) := by decide +kernel
theorem dX3_orderSets_24 : decode cX3_orderSets 24 = .ok (.iload_n 1, 1) := by decide +kernel
theorem dX3_orderSets_25 : decode cX3_orderSets 25 = .ok (.iconst 1, 1) := by decide +kernel
theorem dX3_orderSets_26 : decode cX3_orderSets 26 = .ok (.iload_n 2, 1) := by decide +kernel
theorem dX3_orderSets_27 : decode cX3_orderSets 27 = .ok (.ishl, 1) := by decide +kernel
theorem dX3_orderSets_28 : decode cX3_orderSets 28 = .ok (.aload_n 0, 1) := by decide +kernel
theorem dX3_orderSets_29 : decode cX3_orderSets 29 = .ok (.getfield 44, 3) := by decide +kernel
theorem dX3_orderSets_32 : decode cX3_orderSets 32 = .ok (.iload_n 2, 1) := by decide +kernel
theorem dX3_orderSets_33 : decode cX3_orderSets 33 = .ok (.invokevirtual 111, 3) := by decide +kernel
theorem dX3_orderSets_36 : decode cX3_orderSets 36 = .ok (.getfield 144, 3) := by decide +kernel
theorem dX3_orderSets_39 : decode cX3_orderSets 39 = .ok (.sipush 256, 3) := by decide +kernel
theorem dX3_orderSets_42 : decode cX3_orderSets 42 = .ok (.imul, 1) := by decide +kernel
theorem dX3_orderSets_43 : decode cX3_orderSets 43 = .ok (.isub, 1) := by decide +kernel
theorem dX3_orderSets_44 : decode cX3_orderSets 44 = .ok (.invokevirtual 147, 3) := by decide +kernel
theorem dX3_orderSets_47 : decode cX3_orderSets 47 = .ok (.iload_n 1, 1) := by decide +kernel
theorem dX3_orderSets_48 : decode cX3_orderSets 48 = .ok (.iconst 2, 1) := by decide +kernel
theorem dX3_orderSets_49 : decode cX3_orderSets 49 = .ok (.imul, 1) := by decide +kernel
theorem dX3_orderSets_50 : decode cX3_orderSets 50 = .ok (.istore_n 1, 1) := by decide +kernel
theorem dX3_orderSets_51 : decode cX3_orderSets 51 = .ok (.iinc 2 1, 3) := by decide +kernel
theorem dX3_orderSets_54 : decode cX3_orderSets 54 = .ok (.goto (-42), 3) := by decide +kernel
theorem dX3_orderSets_57 : decode cX3_orderSets 57 = .ok (.iload_n 1, 1) := by decide +kernel
theorem dX3_orderSets_58 : decode cX3_orderSets 58 = .ok (.ireturn, 1) := by decide +kernel
theorem dX3_mergeShifted_0 : decode cX3_mergeShifted 0 = .ok (.iconst 0, 1) := by decide +kernel
theorem dX3_mergeShifted_1 : decode cX3_mergeShifted 1 = .ok (.istore_n 3, 1) := by decide +kernel
theorem dX3_mergeShifted_2 : decode cX3_mergeShifted 2 = .ok (.iconst 0, 1) := by decide +kernel
theorem dX3_mergeShifted_3 : decode cX3_mergeShifted 3 = .ok (.istore 4, 2) := by decide +kernel
theorem dX3_mergeShifted_5 : decode cX3_mergeShifted 5 = .ok (.iconst 0, 1) := by decide +kernel
theorem dX3_mergeShifted_6 : decode cX3_mergeShifted 6 = .ok (.istore 5, 2) := by decide +kernel
theorem dX3_mergeShifted_8 : decode cX3_mergeShifted 8 = .ok (.iload 5, 2) := by decide +kernel
theorem dX3_mergeShifted_10 : decode cX3_mergeShifted 10 = .ok (.iconst 2, 1) := by decide +kernel
theorem dX3_mergeShifted_11 : decode cX3_mergeShifted 11 = .ok (.iload_n 1, 1) := by decide +kernel
theorem dX3_mergeShifted_12 : decode cX3_mergeShifted 12 = .ok (.imul, 1) := by decide +kernel
theorem dX3_mergeShifted_13 : decode cX3_mergeShifted 13 = .ok (.if_icmp .ge 111, 3) := by decide +kernel
theorem dX3_mergeShifted_16 : decode cX3_mergeShifted 16 = .ok (.iload 5, 2) := by decide +kernel
theorem dX3_mergeShifted_18 : decode cX3_mergeShifted 18 = .ok (.sipush 256, 3) := by decide +kernel
theorem dX3_mergeShifted_21 : decode cX3_mergeShifted 21 = .ok (.if_icmp .ge 103, 3) := by decide +kernel
theorem dX3_mergeShifted_24 : decode cX3_mergeShifted 24 = .ok (.iload 4, 2) := by decide +kernel
theorem dX3_mergeShifted_26 : decode cX3_mergeShifted 26 = .ok (.iload_n 1, 1) := by decide +kernel
theorem dX3_mergeShifted_27 : decode cX3_mergeShifted 27 = .ok (.if_icmp .ge 26, 3) := by decide +kernel
theorem dX3_mergeShifted_30 : decode cX3_mergeShifted 30 = .ok (.iload_n 3, 1) := by decide +kernel
theorem dX3_mergeShifted_31 : decode cX3_mergeShifted 31 = .ok (.iload_n 1, 1) := by decide +kernel
theorem dX3_mergeShifted_32 : decode cX3_mergeShifted 32 = .ok (.if_icmp .ge 25, 3) := by decide +kernel
theorem dX3_mergeShifted_35 : decode cX3_mergeShifted 35 = .ok (.aload_n 0, 1) := by decide +kernel
theorem dX3_mergeShifted_36 : decode cX3_mergeShifted 36 = .ok (.getfield 34, 3) := by decide +kernel
theorem dX3_mergeShifted_39 : decode cX3_mergeShifted 39 = .ok (.iload_n 3, 1) := by decide +kernel
theorem dX3_mergeShifted_40 : decode cX3_mergeShifted 40 = .ok (.iaload, 1) := by decide +kernel
theorem dX3_mergeShifted_41 : decode cX3_mergeShifted 41 = .ok (.aload_n 0, 1) := by decide +kernel
theorem dX3_mergeShifted_42 : decode cX3_mergeShifted 42 = .ok (.getfield 34, 3) := by decide +kernel
theorem dX3_mergeShifted_45 : decode cX3_mergeShifted 45 = .ok (.iload 4, 2) := by decide +kernel
theorem dX3_mergeShifted_47 : decode cX3_mergeShifted 47 = .ok (.iaload, 1) := by decide +kernel
theorem dX3_mergeShifted_48 : decode cX3_mergeShifted 48 = .ok (.iload_n 2, 1) := by decide +kernel
theorem dX3_mergeShifted_49 : decode cX3_mergeShifted 49 = .ok (.iadd, 1) := by decide +kernel
theorem dX3_mergeShifted_50 : decode cX3_mergeShifted 50 = .ok (.if_icmp .ge 7, 3) := by decide +kernel
theorem dX3_mergeShifted_53 : decode cX3_mergeShifted 53 = .ok (.iconst 1, 1) := by decide +kernel
theorem dX3_mergeShifted_54 : decode cX3_mergeShifted 54 = .ok (.goto 4, 3) := by decide +kernel
theorem dX3_mergeShifted_57 : decode cX3_mergeShifted 57 = .ok (.iconst 0, 1) := by decide +kernel
theorem dX3_mergeShifted_58 : decode cX3_mergeShifted 58 = .ok (.istore 6, 2) := by decide +kernel
theorem dX3_mergeShifted_60 : decode cX3_mergeShifted 60 = .ok (.aload_n 0, 1) := by decide +kernel
theorem dX3_mergeShifted_61 : decode cX3_mergeShifted 61 = .ok (.getfield 37, 3) := by decide +kernel
theorem dX3_mergeShifted_64 : decode cX3_mergeShifted 64 = .ok (.iload 5, 2) := by decide +kernel
theorem dX3_mergeShifted_66 : decode cX3_mergeShifted 66 = .ok (.iload 6, 2) := by decide +kernel
theorem dX3_mergeShifted_68 : decode cX3_mergeShifted 68 = .ok (.ifCond .eq 12, 3) := by decide +kernel
theorem dX3_mergeShifted_71 : decode cX3_mergeShifted 71 = .ok (.aload_n 0, 1) := by decide +kernel
theorem dX3_mergeShifted_72 : decode cX3_mergeShifted 72 = .ok (.getfield 34, 3) := by decide +kernel
theorem dX3_mergeShifted_75 : decode cX3_mergeShifted 75 = .ok (.iload_n 3, 1) := by decide +kernel
theorem dX3_mergeShifted_76 : decode cX3_mergeShifted 76 = .ok (.iaload, 1) := by decide +kernel
theorem dX3_mergeShifted_77 : decode cX3_mergeShifted 77 = .ok (.goto 12, 3) := by decide +kernel
theorem dX3_mergeShifted_80 : decode cX3_mergeShifted 80 = .ok (.aload_n 0, 1) := by decide +kernel
theorem dX3_mergeShifted_81 : decode cX3_mergeShifted 81 = .ok (.getfield 34, 3) := by decide +kernel
theorem dX3_mergeShifted_84 : decode cX3_mergeShifted 84 = .ok (.iload 4, 2) := by decide +kernel
theorem dX3_mergeShifted_86 : decode cX3_mergeShifted 86 = .ok (.iaload, 1) := by decide +kernel
theorem dX3_mergeShifted_87 : decode cX3_mergeShifted 87 = .ok (.iload_n 2, 1) := by decide +kernel
theorem dX3_mergeShifted_88 : decode cX3_mergeShifted 88 = .ok (.iadd, 1) := by decide +kernel
theorem dX3_mergeShifted_89 : decode cX3_mergeShifted 89 = .ok (.iastore, 1) := by decide +kernel
theorem dX3_mergeShifted_90 : decode cX3_mergeShifted 90 = .ok (.iload_n 3, 1) := by decide +kernel
theorem dX3_mergeShifted_91 : decode cX3_mergeShifted 91 = .ok (.iload 6, 2) := by decide +kernel
theorem dX3_mergeShifted_93 : decode cX3_mergeShifted 93 = .ok (.ifCond .eq 7, 3) := by decide +kernel
theorem dX3_mergeShifted_96 : decode cX3_mergeShifted 96 = .ok (.iconst 1, 1) := by decide +kernel
theorem dX3_mergeShifted_97 : decode cX3_mergeShifted 97 = .ok (.goto 4, 3) := by decide +kernel
theorem dX3_mergeShifted_100 : decode cX3_mergeShifted 100 = .ok (.iconst 0, 1) := by decide +kernel
theorem dX3_mergeShifted_101 : decode cX3_mergeShifted 101 = .ok (.iadd, 1) := by decide +kernel
theorem dX3_mergeShifted_102 : decode cX3_mergeShifted 102 = .ok (.istore_n 3, 1) := by decide +kernel
theorem dX3_mergeShifted_103 : decode cX3_mergeShifted 103 = .ok (.iload 4, 2) := by decide +kernel
theorem dX3_mergeShifted_105 : decode cX3_mergeShifted 105 = .ok (.iload 6, 2) := by decide +kernel
theorem dX3_mergeShifted_107 : decode cX3_mergeShifted 107 = .ok (.ifCond .eq 7, 3) := by decide +kernel
theorem dX3_mergeShifted_110 : decode cX3_mergeShifted 110 = .ok (.iconst 0, 1) := by decide +kernel
theorem dX3_mergeShifted_111 : decode cX3_mergeShifted 111 = .ok (.goto 4, 3) := by decide +kernel
theorem dX3_mergeShifted_114 : decode cX3_mergeShifted 114 = .ok (.iconst 1, 1) := by decide +kernel
theorem dX3_mergeShifted_115 : decode cX3_mergeShifted 115 = .ok (.iadd, 1) := by decide +kernel
theorem dX3_mergeShifted_116 : decode cX3_mergeShifted 116 = .ok (.istore 4, 2) := by decide +kernel
theorem dX3_mergeShifted_118 : decode cX3_mergeShifted 118 = .ok (.iinc 5 1, 3) := by decide +kernel
theorem dX3_mergeShifted_121 : decode cX3_mergeShifted 121 = .ok (.goto (-113), 3) := by decide +kernel
theorem dX3_mergeShifted_124 : decode cX3_mergeShifted 124 = .ok (.iconst 0, 1) := by decide +kernel
theorem dX3_mergeShifted_125 : decode cX3_mergeShifted 125 = .ok (.istore 5, 2) := by decide +kernel
theorem dX3_mergeShifted_127 : decode cX3_mergeShifted 127 = .ok (.iload 5, 2) := by decide +kernel
theorem dX3_mergeShifted_129 : decode cX3_mergeShifted 129 = .ok (.iconst 2, 1) := by decide +kernel
theorem dX3_mergeShifted_130 : decode cX3_mergeShifted 130 = .ok (.iload_n 1, 1) := by decide +kernel
theorem dX3_mergeShifted_131 : decode cX3_mergeShifted 131 = .ok (.imul, 1) := by decide +kernel
theorem dX3_mergeShifted_132 : decode cX3_mergeShifted 132 = .ok (.if_icmp .ge 31, 3) := by decide +kernel
theorem dX3_mergeShifted_135 : decode cX3_mergeShifted 135 = .ok (.iload 5, 2) := by decide +kernel
theorem dX3_mergeShifted_137 : decode cX3_mergeShifted 137 = .ok (.sipush 256, 3) := by decide +kernel
theorem dX3_mergeShifted_140 : decode cX3_mergeShifted 140 = .ok (.if_icmp .ge 23, 3) := by decide +kernel
theorem dX3_mergeShifted_143 : decode cX3_mergeShifted 143 = .ok (.aload_n 0, 1) := by decide +kernel
theorem dX3_mergeShifted_144 : decode cX3_mergeShifted 144 = .ok (.getfield 34, 3) := by decide +kernel
theorem dX3_mergeShifted_147 : decode cX3_mergeShifted 147 = .ok (.iload 5, 2) := by decide +kernel
theorem dX3_mergeShifted_149 : decode cX3_mergeShifted 149 = .ok (.aload_n 0, 1) := by decide +kernel
theorem dX3_mergeShifted_150 : decode cX3_mergeShifted 150 = .ok (.getfield 37, 3) := by decide +kernel
theorem dX3_mergeShifted_153 : decode cX3_mergeShifted 153 = .ok (.iload 5, 2) := by decide +kernel
theorem dX3_mergeShifted_155 : decode cX3_mergeShifted 155 = .ok (.iaload, 1) := by decide +kernel
theorem dX3_mergeShifted_156 : decode cX3_mergeShifted 156 = .ok (.iastore, 1) := by decide +kernel
theorem dX3_mergeShifted_157 : decode cX3_mergeShifted 157 = .ok (.iinc 5 1, 3) := by decide +kernel
theorem dX3_mergeShifted_160 : decode cX3_mergeShifted 160 = .ok (.goto (-33), 3) := by decide +kernel
theorem dX3_mergeShifted_163 : decode cX3_mergeShifted 163 = .ok (.return_, 1) := by decide +kernel
theorem dX4_init_0 : decode cX4_init 0 = .ok (.aload_n 0, 1) := by decide +kernel
theorem dX4_init_1 : decode cX4_init 1 = .ok (.invokespecial 1, 3) := by decide +kernel
theorem dX4_init_4 : decode cX4_init 4 = .ok (.return_, 1) := by decide +kernel
theorem dX4_otherEnd_0 : decode cX4_otherEnd 0 = .ok (.iload_n 1, 1) := by decide +kernel
theorem dX4_otherEnd_1 : decode cX4_otherEnd 1 = .ok (.aload_n 0, 1) := by decide +kernel
theorem dX4_otherEnd_2 : decode cX4_otherEnd 2 = .ok (.getfield 7, 3) := by decide +kernel
theorem dX4_otherEnd_5 : decode cX4_otherEnd 5 = .ok (.if_icmp .ne 8, 3) := by decide +kernel
theorem dX4_otherEnd_8 : decode cX4_otherEnd 8 = .ok (.aload_n 0, 1) := by decide +kernel
theorem dX4_otherEnd_9 : decode cX4_otherEnd 9 = .ok (.getfield 13, 3) := by decide +kernel
theorem dX4_otherEnd_12 : decode cX4_otherEnd 12 = .ok (.ireturn, 1) := by decide +kernel
theorem dX4_otherEnd_13 : decode cX4_otherEnd 13 = .ok (.iload_n 1, 1) := by decide +kernel
theorem dX4_otherEnd_14 : decode cX4_otherEnd 14 = .ok (.aload_n 0, 1) := by decide +kernel
theorem dX4_otherEnd_15 : decode cX4_otherEnd 15 = .ok (.getfield 13, 3) := by decide +kernel
theorem dX4_otherEnd_18 : decode cX4_otherEnd 18 = .ok (.if_icmp .ne 10, 3) := by decide +kernel
theorem dX4_otherEnd_21 : decode cX4_otherEnd 21 = .ok (.aload_n 0, 1) := by decide +kernel
theorem dX4_otherEnd_22 : decode cX4_otherEnd 22 = .ok (.getfield 7, 3) := by decide +kernel
theorem dX4_otherEnd_25 : decode cX4_otherEnd 25 = .ok (.goto 4, 3) := by decide +kernel
theorem dX4_otherEnd_28 : decode cX4_otherEnd 28 = .ok (.iconst (-1), 1) := by decide +kernel
theorem dX4_otherEnd_29 : decode cX4_otherEnd 29 = .ok (.ireturn, 1) := by decide +kernel
theorem dX4_leftNow_0 : decode cX4_leftNow 0 = .ok (.aload_n 0, 1) := by decide +kernel
theorem dX4_leftNow_1 : decode cX4_leftNow 1 = .ok (.getfield 16, 3) := by decide +kernel
theorem dX4_leftNow_4 : decode cX4_leftNow 4 = .ok (.aload_n 0, 1) := by decide +kernel
theorem dX4_leftNow_5 : decode cX4_leftNow 5 = .ok (.getfield 19, 3) := by decide +kernel
theorem dX4_leftNow_8 : decode cX4_leftNow 8 = .ok (.isub, 1) := by decide +kernel
theorem dX4_leftNow_9 : decode cX4_leftNow 9 = .ok (.ireturn, 1) := by decide +kernel
theorem dX4_pass_0 : decode cX4_pass 0 = .ok (.aload_n 0, 1) := by decide +kernel
theorem dX4_pass_1 : decode cX4_pass 1 = .ok (.dup, 1) := by decide +kernel
theorem dX4_pass_2 : decode cX4_pass 2 = .ok (.getfield 22, 3) := by decide +kernel
theorem dX4_pass_5 : decode cX4_pass 5 = .ok (.iload_n 1, 1) := by decide +kernel
theorem dX4_pass_6 : decode cX4_pass 6 = .ok (.iadd, 1) := by decide +kernel
theorem dX4_pass_7 : decode cX4_pass 7 = .ok (.putfield 22, 3) := by decide +kernel
theorem dX4_pass_10 : decode cX4_pass 10 = .ok (.aload_n 0, 1) := by decide +kernel
theorem dX4_pass_11 : decode cX4_pass 11 = .ok (.dup, 1) := by decide +kernel
theorem dX4_pass_12 : decode cX4_pass 12 = .ok (.getfield 19, 3) := by decide +kernel
theorem dX4_pass_15 : decode cX4_pass 15 = .ok (.iload_n 1, 1) := by decide +kernel
theorem dX4_pass_16 : decode cX4_pass 16 = .ok (.iadd, 1) := by decide +kernel
theorem dX4_pass_17 : decode cX4_pass 17 = .ok (.putfield 19, 3) := by decide +kernel
theorem dX4_pass_20 : decode cX4_pass 20 = .ok (.aload_n 0, 1) := by decide +kernel
theorem dX4_pass_21 : decode cX4_pass 21 = .ok (.dup, 1) := by decide +kernel
theorem dX4_pass_22 : decode cX4_pass 22 = .ok (.getfield 25, 3) := by decide +kernel
theorem dX4_pass_25 : decode cX4_pass 25 = .ok (.iload_n 1, 1) := by decide +kernel
theorem dX4_pass_26 : decode cX4_pass 26 = .ok (.aload_n 0, 1) := by decide +kernel
theorem dX4_pass_27 : decode cX4_pass 27 = .ok (.getfield 28, 3) := by decide +kernel
theorem dX4_pass_30 : decode cX4_pass 30 = .ok (.imul, 1) := by decide +kernel
theorem dX4_pass_31 : decode cX4_pass 31 = .ok (.iadd, 1) := by decide +kernel
theorem dX4_pass_32 : decode cX4_pass 32 = .ok (.putfield 25, 3) := by decide +kernel
theorem dX4_pass_35 : decode cX4_pass 35 = .ok (.return_, 1) := by decide +kernel
theorem dX4_tell_0 : decode cX4_tell 0 = .ok (.iload_n 1, 1) := by decide +kernel
theorem dX4_tell_1 : decode cX4_tell 1 = .ok (.tableswitch 82 0 7 #[47, 52, 57, 62, 67, 82, 72, 77], 47) := by decide +kernel
theorem dX4_tell_48 : decode cX4_tell 48 = .ok (.aload_n 0, 1) := by decide +kernel
theorem dX4_tell_49 : decode cX4_tell 49 = .ok (.getfield 7, 3) := by decide +kernel
theorem dX4_tell_52 : decode cX4_tell 52 = .ok (.ireturn, 1) := by decide +kernel
theorem dX4_tell_53 : decode cX4_tell 53 = .ok (.aload_n 0, 1) := by decide +kernel
theorem dX4_tell_54 : decode cX4_tell 54 = .ok (.getfield 13, 3) := by decide +kernel
theorem dX4_tell_57 : decode cX4_tell 57 = .ok (.ireturn, 1) := by decide +kernel
theorem dX4_tell_58 : decode cX4_tell 58 = .ok (.aload_n 0, 1) := by decide +kernel
theorem dX4_tell_59 : decode cX4_tell 59 = .ok (.getfield 16, 3) := by decide +kernel
theorem dX4_tell_62 : decode cX4_tell 62 = .ok (.ireturn, 1) := by decide +kernel
theorem dX4_tell_63 : decode cX4_tell 63 = .ok (.aload_n 0, 1) := by decide +kernel
theorem dX4_tell_64 : decode cX4_tell 64 = .ok (.getfield 31, 3) := by decide +kernel
theorem dX4_tell_67 : decode cX4_tell 67 = .ok (.ireturn, 1) := by decide +kernel
theorem dX4_tell_68 : decode cX4_tell 68 = .ok (.aload_n 0, 1) := by decide +kernel
theorem dX4_tell_69 : decode cX4_tell 69 = .ok (.getfield 28, 3) := by decide +kernel
theorem dX4_tell_72 : decode cX4_tell 72 = .ok (.ireturn, 1) := by decide +kernel
theorem dX4_tell_73 : decode cX4_tell 73 = .ok (.aload_n 0, 1) := by decide +kernel
theorem dX4_tell_74 : decode cX4_tell 74 = .ok (.getfield 22, 3) := by decide +kernel
theorem dX4_tell_77 : decode cX4_tell 77 = .ok (.ireturn, 1) := by decide +kernel
theorem dX4_tell_78 : decode cX4_tell 78 = .ok (.aload_n 0, 1) := by decide +kernel
theorem dX4_tell_79 : decode cX4_tell 79 = .ok (.getfield 19, 3) := by decide +kernel
theorem dX4_tell_82 : decode cX4_tell 82 = .ok (.ireturn, 1) := by decide +kernel
theorem dX4_tell_83 : decode cX4_tell 83 = .ok (.aload_n 0, 1) := by decide +kernel
theorem dX4_tell_84 : decode cX4_tell 84 = .ok (.getfield 25, 3) := by decide +kernel
theorem dX4_tell_87 : decode cX4_tell 87 = .ok (.ireturn, 1) := by decide +kernel
theorem dX5_init_0 : decode cX5_init 0 = .ok (.aload_n 0, 1) := by decide +kernel
theorem dX5_init_1 : decode cX5_init 1 = .ok (.invokespecial 3, 3) := by decide +kernel
theorem dX5_init_4 : decode cX5_init 4 = .ok (.aload_n 0, 1) := by decide +kernel
theorem dX5_init_5 : decode cX5_init 5 = .ok (.bipush 6, 2) := by decide +kernel
theorem dX5_init_7 : decode cX5_init 7 = .ok (.newarray .int, 2) := by decide +kernel
theorem dX5_init_9 : decode cX5_init 9 = .ok (.putfield 9, 3) := by decide +kernel
theorem dX5_init_12 : decode cX5_init 12 = .ok (.aload_n 0, 1) := by decide +kernel
theorem dX5_init_13 : decode cX5_init 13 = .ok (.bipush 9, 2) := by decide +kernel
theorem dX5_init_15 : decode cX5_init 15 = .ok (.anewarray 15, 3) := by decide +kernel
theorem dX5_init_18 : decode cX5_init 18 = .ok (.putfield 17, 3) := by decide +kernel
theorem dX5_init_21 : decode cX5_init 21 = .ok (.aload_n 0, 1) := by decide +kernel
theorem dX5_init_22 : decode cX5_init 22 = .ok (.new 21, 3) := by decide +kernel
theorem dX5_init_25 : decode cX5_init 25 = .ok (.dup, 1) := by decide +kernel
theorem dX5_init_26 : decode cX5_init 26 = .ok (.invokespecial 23, 3) := by decide +kernel
theorem dX5_init_29 : decode cX5_init 29 = .ok (.putfield 24, 3) := by decide +kernel
theorem dX5_init_32 : decode cX5_init 32 = .ok (.iconst 0, 1) := by decide +kernel
theorem dX5_init_33 : decode cX5_init 33 = .ok (.istore_n 1, 1) := by decide +kernel
theorem dX5_init_34 : decode cX5_init 34 = .ok (.iload_n 1, 1) := by decide +kernel
theorem dX5_init_35 : decode cX5_init 35 = .ok (.bipush 9, 2) := by decide +kernel
theorem dX5_init_37 : decode cX5_init 37 = .ok (.if_icmp .ge 22, 3) := by decide +kernel
theorem dX5_init_40 : decode cX5_init 40 = .ok (.aload_n 0, 1) := by decide +kernel
theorem dX5_init_41 : decode cX5_init 41 = .ok (.getfield 17, 3) := by decide +kernel
theorem dX5_init_44 : decode cX5_init 44 = .ok (.iload_n 1, 1) := by decide +kernel
theorem dX5_init_45 : decode cX5_init 45 = .ok (.new 15, 3) := by decide +kernel
theorem dX5_init_48 : decode cX5_init 48 = .ok (.dup, 1) := by decide +kernel
theorem dX5_init_49 : decode cX5_init 49 = .ok (.invokespecial 28, 3) := by decide +kernel
theorem dX5_init_52 : decode cX5_init 52 = .ok (.aastore, 1) := by decide +kernel
theorem dX5_init_53 : decode cX5_init 53 = .ok (.iinc 1 1, 3) := by decide +kernel
theorem dX5_init_56 : decode cX5_init 56 = .ok (.goto (-22), 3) := by decide +kernel
theorem dX5_init_59 : decode cX5_init 59 = .ok (.return_, 1) := by decide +kernel
theorem dX5_hasNode_0 : decode cX5_hasNode 0 = .ok (.iload_n 1, 1) := by decide +kernel
theorem dX5_hasNode_1 : decode cX5_hasNode 1 = .ok (.ifCond .lt 15, 3) := by decide +kernel
theorem dX5_hasNode_4 : decode cX5_hasNode 4 = .ok (.iload_n 1, 1) := by decide +kernel
theorem dX5_hasNode_5 : decode cX5_hasNode 5 = .ok (.aload_n 0, 1) := by decide +kernel
theorem dX5_hasNode_6 : decode cX5_hasNode 6 = .ok (.getfield 29, 3) := by decide +kernel
theorem dX5_hasNode_9 : decode cX5_hasNode 9 = .ok (.if_icmp .ge 7, 3) := by decide +kernel
theorem dX5_hasNode_12 : decode cX5_hasNode 12 = .ok (.iconst 1, 1) := by decide +kernel
theorem dX5_hasNode_13 : decode cX5_hasNode 13 = .ok (.goto 4, 3) := by decide +kernel
theorem dX5_hasNode_16 : decode cX5_hasNode 16 = .ok (.iconst 0, 1) := by decide +kernel
theorem dX5_hasNode_17 : decode cX5_hasNode 17 = .ok (.ireturn, 1) := by decide +kernel
theorem dX5_hasLine_0 : decode cX5_hasLine 0 = .ok (.iload_n 1, 1) := by decide +kernel
theorem dX5_hasLine_1 : decode cX5_hasLine 1 = .ok (.ifCond .lt 15, 3) := by decide +kernel
theorem dX5_hasLine_4 : decode cX5_hasLine 4 = .ok (.iload_n 1, 1) := by decide +kernel
theorem dX5_hasLine_5 : decode cX5_hasLine 5 = .ok (.aload_n 0, 1) := by decide +kernel
theorem dX5_hasLine_6 : decode cX5_hasLine 6 = .ok (.getfield 33, 3) := by decide +kernel
theorem dX5_hasLine_9 : decode cX5_hasLine 9 = .ok (.if_icmp .ge 7, 3) := by decide +kernel
theorem dX5_hasLine_12 : decode cX5_hasLine 12 = .ok (.iconst 1, 1) := by decide +kernel
theorem dX5_hasLine_13 : decode cX5_hasLine 13 = .ok (.goto 4, 3) := by decide +kernel
theorem dX5_hasLine_16 : decode cX5_hasLine 16 = .ok (.iconst 0, 1) := by decide +kernel
theorem dX5_hasLine_17 : decode cX5_hasLine 17 = .ok (.ireturn, 1) := by decide +kernel
theorem dX5_areTwoNodes_0 : decode cX5_areTwoNodes 0 = .ok (.aload_n 0, 1) := by decide +kernel
theorem dX5_areTwoNodes_1 : decode cX5_areTwoNodes 1 = .ok (.iload_n 1, 1) := by decide +kernel
theorem dX5_areTwoNodes_2 : decode cX5_areTwoNodes 2 = .ok (.invokevirtual 36, 3) := by decide +kernel
theorem dX5_areTwoNodes_5 : decode cX5_areTwoNodes 5 = .ok (.ifCond .eq 20, 3) := by decide +kernel
theorem dX5_areTwoNodes_8 : decode cX5_areTwoNodes 8 = .ok (.aload_n 0, 1) := by decide +kernel
theorem dX5_areTwoNodes_9 : decode cX5_areTwoNodes 9 = .ok (.iload_n 2, 1) := by decide +kernel
theorem dX5_areTwoNodes_10 : decode cX5_areTwoNodes 10 = .ok (.invokevirtual 36, 3) := by decide +kernel
theorem dX5_areTwoNodes_13 : decode cX5_areTwoNodes 13 = .ok (.ifCond .eq 12, 3) := by decide +kernel
theorem dX5_areTwoNodes_16 : decode cX5_areTwoNodes 16 = .ok (.iload_n 1, 1) := by decide +kernel
theorem dX5_areTwoNodes_17 : decode cX5_areTwoNodes 17 = .ok (.iload_n 2, 1) := by decide +kernel
theorem dX5_areTwoNodes_18 : decode cX5_areTwoNodes 18 = .ok (.if_icmp .eq 7, 3) := by decide +kernel
theorem dX5_areTwoNodes_21 : decode cX5_areTwoNodes 21 = .ok (.iconst 1, 1) := by decide +kernel
theorem dX5_areTwoNodes_22 : decode cX5_areTwoNodes 22 = .ok (.goto 4, 3) := by decide +kernel
theorem dX5_areTwoNodes_25 : decode cX5_areTwoNodes 25 = .ok (.iconst 0, 1) := by decide +kernel
theorem dX5_areTwoNodes_26 : decode cX5_areTwoNodes 26 = .ok (.ireturn, 1) := by decide +kernel
theorem dX5_lineAt_0 : decode cX5_lineAt 0 = .ok (.aload_n 0, 1) := by decide +kernel
theorem dX5_lineAt_1 : decode cX5_lineAt 1 = .ok (.getfield 17, 3) := by decide +kernel
theorem dX5_lineAt_4 : decode cX5_lineAt 4 = .ok (.iload_n 1, 1) := by decide +kernel
theorem dX5_lineAt_5 : decode cX5_lineAt 5 = .ok (.aaload, 1) := by decide +kernel
theorem dX5_lineAt_6 : decode cX5_lineAt 6 = .ok (.areturn, 1) := by decide +kernel
theorem dX5_workroomOf_0 : decode cX5_workroomOf 0 = .ok (.aload_n 0, 1) := by decide +kernel
theorem dX5_workroomOf_1 : decode cX5_workroomOf 1 = .ok (.getfield 9, 3) := by decide +kernel
theorem dX5_workroomOf_4 : decode cX5_workroomOf 4 = .ok (.iload_n 1, 1) := by decide +kernel
theorem dX5_workroomOf_5 : decode cX5_workroomOf 5 = .ok (.iaload, 1) := by decide +kernel
theorem dX5_workroomOf_6 : decode cX5_workroomOf 6 = .ok (.ireturn, 1) := by decide +kernel
theorem dX5_addNode_0 : decode cX5_addNode 0 = .ok (.aload_n 0, 1) := by decide +kernel
theorem dX5_addNode_1 : decode cX5_addNode 1 = .ok (.getfield 9, 3) := by decide +kernel
theorem dX5_addNode_4 : decode cX5_addNode 4 = .ok (.aload_n 0, 1) := by decide +kernel
theorem dX5_addNode_5 : decode cX5_addNode 5 = .ok (.getfield 29, 3) := by decide +kernel
theorem dX5_addNode_8 : decode cX5_addNode 8 = .ok (.iload_n 1, 1) := by decide +kernel
theorem dX5_addNode_9 : decode cX5_addNode 9 = .ok (.iastore, 1) := by decide +kernel
theorem dX5_addNode_10 : decode cX5_addNode 10 = .ok (.aload_n 0, 1) := by decide +kernel
theorem dX5_addNode_11 : decode cX5_addNode 11 = .ok (.dup, 1) := by decide +kernel
theorem dX5_addNode_12 : decode cX5_addNode 12 = .ok (.getfield 29, 3) := by decide +kernel
theorem dX5_addNode_15 : decode cX5_addNode 15 = .ok (.iconst 1, 1) := by decide +kernel
theorem dX5_addNode_16 : decode cX5_addNode 16 = .ok (.iadd, 1) := by decide +kernel
theorem dX5_addNode_17 : decode cX5_addNode 17 = .ok (.putfield 29, 3) := by decide +kernel
theorem dX5_addNode_20 : decode cX5_addNode 20 = .ok (.aload_n 0, 1) := by decide +kernel
theorem dX5_addNode_21 : decode cX5_addNode 21 = .ok (.getfield 29, 3) := by decide +kernel
theorem dX5_addNode_24 : decode cX5_addNode 24 = .ok (.iconst 1, 1) := by decide +kernel
theorem dX5_addNode_25 : decode cX5_addNode 25 = .ok (.isub, 1) := by decide +kernel
theorem dX5_addNode_26 : decode cX5_addNode 26 = .ok (.ireturn, 1) := by decide +kernel
theorem dX5_addLine_0 : decode cX5_addLine 0 = .ok (.aload_n 0, 1) := by decide +kernel
theorem dX5_addLine_1 : decode cX5_addLine 1 = .ok (.getfield 17, 3) := by decide +kernel
theorem dX5_addLine_4 : decode cX5_addLine 4 = .ok (.aload_n 0, 1) := by decide +kernel
theorem dX5_addLine_5 : decode cX5_addLine 5 = .ok (.getfield 33, 3) := by decide +kernel
theorem dX5_addLine_8 : decode cX5_addLine 8 = .ok (.aaload, 1) := by decide +kernel
theorem dX5_addLine_9 : decode cX5_addLine 9 = .ok (.astore 6, 2) := by decide +kernel
theorem dX5_addLine_11 : decode cX5_addLine 11 = .ok (.aload 6, 2) := by decide +kernel
theorem dX5_addLine_13 : decode cX5_addLine 13 = .ok (.iload_n 1, 1) := by decide +kernel
theorem dX5_addLine_14 : decode cX5_addLine 14 = .ok (.putfield 40, 3) := by decide +kernel
theorem dX5_addLine_17 : decode cX5_addLine 17 = .ok (.aload 6, 2) := by decide +kernel
theorem dX5_addLine_19 : decode cX5_addLine 19 = .ok (.iload_n 2, 1) := by decide +kernel
theorem dX5_addLine_20 : decode cX5_addLine 20 = .ok (.putfield 43, 3) := by decide +kernel
theorem dX5_addLine_23 : decode cX5_addLine 23 = .ok (.aload 6, 2) := by decide +kernel
theorem dX5_addLine_25 : decode cX5_addLine 25 = .ok (.iload_n 3, 1) := by decide +kernel
theorem dX5_addLine_26 : decode cX5_addLine 26 = .ok (.putfield 46, 3) := by decide +kernel
theorem dX5_addLine_29 : decode cX5_addLine 29 = .ok (.aload 6, 2) := by decide +kernel
theorem dX5_addLine_31 : decode cX5_addLine 31 = .ok (.iload 4, 2) := by decide +kernel
theorem dX5_addLine_33 : decode cX5_addLine 33 = .ok (.putfield 49, 3) := by decide +kernel
theorem dX5_addLine_36 : decode cX5_addLine 36 = .ok (.aload 6, 2) := by decide +kernel
theorem dX5_addLine_38 : decode cX5_addLine 38 = .ok (.iload 5, 2) := by decide +kernel
theorem dX5_addLine_40 : decode cX5_addLine 40 = .ok (.putfield 52, 3) := by decide +kernel
theorem dX5_addLine_43 : decode cX5_addLine 43 = .ok (.aload_n 0, 1) := by decide +kernel
theorem dX5_addLine_44 : decode cX5_addLine 44 = .ok (.dup, 1) := by decide +kernel
theorem dX5_addLine_45 : decode cX5_addLine 45 = .ok (.getfield 33, 3) := by decide +kernel
theorem dX5_addLine_48 : decode cX5_addLine 48 = .ok (.iconst 1, 1) := by decide +kernel
theorem dX5_addLine_49 : decode cX5_addLine 49 = .ok (.iadd, 1) := by decide +kernel
theorem dX5_addLine_50 : decode cX5_addLine 50 = .ok (.putfield 33, 3) := by decide +kernel
theorem dX5_addLine_53 : decode cX5_addLine 53 = .ok (.aload_n 0, 1) := by decide +kernel
theorem dX5_addLine_54 : decode cX5_addLine 54 = .ok (.getfield 33, 3) := by decide +kernel
theorem dX5_addLine_57 : decode cX5_addLine 57 = .ok (.iconst 1, 1) := by decide +kernel
theorem dX5_addLine_58 : decode cX5_addLine 58 = .ok (.isub, 1) := by decide +kernel
theorem dX5_addLine_59 : decode cX5_addLine 59 = .ok (.ireturn, 1) := by decide +kernel
theorem dX5_isUp_0 : decode cX5_isUp 0 = .ok (.iload_n 1, 1) := by decide +kernel
theorem dX5_isUp_1 : decode cX5_isUp 1 = .ok (.aload_n 0, 1) := by decide +kernel
theorem dX5_isUp_2 : decode cX5_isUp 2 = .ok (.getfield 55, 3) := by decide +kernel
theorem dX5_isUp_5 : decode cX5_isUp 5 = .ok (.iand, 1) := by decide +kernel
theorem dX5_isUp_6 : decode cX5_isUp 6 = .ok (.ifCond .ne 7, 3) := by decide +kernel
theorem dX5_isUp_9 : decode cX5_isUp 9 = .ok (.iconst 1, 1) := by decide +kernel
theorem dX5_isUp_10 : decode cX5_isUp 10 = .ok (.goto 4, 3) := by decide +kernel
theorem dX5_isUp_13 : decode cX5_isUp 13 = .ok (.iconst 0, 1) := by decide +kernel
theorem dX5_isUp_14 : decode cX5_isUp 14 = .ok (.ireturn, 1) := by decide +kernel
theorem dX5_setUp_0 : decode cX5_setUp 0 = .ok (.aload_n 0, 1) := by decide +kernel
theorem dX5_setUp_1 : decode cX5_setUp 1 = .ok (.iconst 1, 1) := by decide +kernel
theorem dX5_setUp_2 : decode cX5_setUp 2 = .ok (.iload_n 1, 1) := by decide +kernel
theorem dX5_setUp_3 : decode cX5_setUp 3 = .ok (.ishl, 1) := by decide +kernel
theorem dX5_setUp_4 : decode cX5_setUp 4 = .ok (.invokevirtual 58, 3) := by decide +kernel
theorem dX5_setUp_7 : decode cX5_setUp 7 = .ok (.iload_n 2, 1) := by decide +kernel
theorem dX5_setUp_8 : decode cX5_setUp 8 = .ok (.if_icmp .eq 7, 3) := by decide +kernel
theorem dX5_setUp_11 : decode cX5_setUp 11 = .ok (.iconst 1, 1) := by decide +kernel
theorem dX5_setUp_12 : decode cX5_setUp 12 = .ok (.goto 4, 3) := by decide +kernel
theorem dX5_setUp_15 : decode cX5_setUp 15 = .ok (.iconst 0, 1) := by decide +kernel
theorem dX5_setUp_16 : decode cX5_setUp 16 = .ok (.istore_n 3, 1) := by decide +kernel
theorem dX5_setUp_17 : decode cX5_setUp 17 = .ok (.aload_n 0, 1) := by decide +kernel
theorem dX5_setUp_18 : decode cX5_setUp 18 = .ok (.iload_n 2, 1) := by decide +kernel
theorem dX5_setUp_19 : decode cX5_setUp 19 = .ok (.ifCond .eq 16, 3) := by decide +kernel
theorem dX5_setUp_22 : decode cX5_setUp 22 = .ok (.aload_n 0, 1) := by decide +kernel
theorem dX5_setUp_23 : decode cX5_setUp 23 = .ok (.getfield 55, 3) := by decide +kernel
theorem dX5_setUp_26 : decode cX5_setUp 26 = .ok (.iconst 1, 1) := by decide +kernel
theorem dX5_setUp_27 : decode cX5_setUp 27 = .ok (.iload_n 1, 1) := by decide +kernel
theorem dX5_setUp_28 : decode cX5_setUp 28 = .ok (.ishl, 1) := by decide +kernel
theorem dX5_setUp_29 : decode cX5_setUp 29 = .ok (.iconst (-1), 1) := by decide +kernel
theorem dX5_setUp_30 : decode cX5_setUp 30 = .ok (.ixor, 1) := by decide +kernel
theorem dX5_setUp_31 : decode cX5_setUp 31 = .ok (.iand, 1) := by decide +kernel
theorem dX5_setUp_32 : decode cX5_setUp 32 = .ok (.goto 11, 3) := by decide +kernel
theorem dX5_setUp_35 : decode cX5_setUp 35 = .ok (.aload_n 0, 1) := by decide +kernel
theorem dX5_setUp_36 : decode cX5_setUp 36 = .ok (.getfield 55, 3) := by decide +kernel
theorem dX5_setUp_39 : decode cX5_setUp 39 = .ok (.iconst 1, 1) := by decide +kernel
theorem dX5_setUp_40 : decode cX5_setUp 40 = .ok (.iload_n 1, 1) := by decide +kernel
theorem dX5_setUp_41 : decode cX5_setUp 41 = .ok (.ishl, 1) := by decide +kernel
theorem dX5_setUp_42 : decode cX5_setUp 42 = .ok (.ior, 1) := by decide +kernel
theorem dX5_setUp_43 : decode cX5_setUp 43 = .ok (.putfield 55, 3) := by decide +kernel
theorem dX5_setUp_46 : decode cX5_setUp 46 = .ok (.iload_n 3, 1) := by decide +kernel
theorem dX5_setUp_47 : decode cX5_setUp 47 = .ok (.ireturn, 1) := by decide +kernel
theorem dX5_waysBetween_0 : decode cX5_waysBetween 0 = .ok (.aload_n 0, 1) := by decide +kernel
theorem dX5_waysBetween_1 : decode cX5_waysBetween 1 = .ok (.getfield 24, 3) := by decide +kernel
theorem dX5_waysBetween_4 : decode cX5_waysBetween 4 = .ok (.aload_n 0, 1) := by decide +kernel
theorem dX5_waysBetween_5 : decode cX5_waysBetween 5 = .ok (.iload_n 1, 1) := by decide +kernel
theorem dX5_waysBetween_6 : decode cX5_waysBetween 6 = .ok (.iload_n 2, 1) := by decide +kernel
theorem dX5_waysBetween_7 : decode cX5_waysBetween 7 = .ok (.invokevirtual 61, 3) := by decide +kernel
theorem dX5_waysBetween_10 : decode cX5_waysBetween 10 = .ok (.aload_n 0, 1) := by decide +kernel
theorem dX5_waysBetween_11 : decode cX5_waysBetween 11 = .ok (.getfield 24, 3) := by decide +kernel
theorem dX5_waysBetween_14 : decode cX5_waysBetween 14 = .ok (.areturn, 1) := by decide +kernel
theorem dX5_nodesOn_0 : decode cX5_nodesOn 0 = .ok (.iconst 0, 1) := by decide +kernel
theorem dX5_nodesOn_1 : decode cX5_nodesOn 1 = .ok (.istore_n 2, 1) := by decide +kernel
theorem dX5_nodesOn_2 : decode cX5_nodesOn 2 = .ok (.iconst 0, 1) := by decide +kernel
theorem dX5_nodesOn_3 : decode cX5_nodesOn 3 = .ok (.istore_n 3, 1) := by decide +kernel
theorem dX5_nodesOn_4 : decode cX5_nodesOn 4 = .ok (.iload_n 3, 1) := by decide +kernel
theorem dX5_nodesOn_5 : decode cX5_nodesOn 5 = .ok (.aload_n 0, 1) := by decide +kernel
theorem dX5_nodesOn_6 : decode cX5_nodesOn 6 = .ok (.getfield 33, 3) := by decide +kernel
theorem dX5_nodesOn_9 : decode cX5_nodesOn 9 = .ok (.if_icmp .ge 43, 3) := by decide +kernel
theorem dX5_nodesOn_12 : decode cX5_nodesOn 12 = .ok (.iload_n 1, 1) := by decide +kernel
theorem dX5_nodesOn_13 : decode cX5_nodesOn 13 = .ok (.iload_n 3, 1) := by decide +kernel
theorem dX5_nodesOn_14 : decode cX5_nodesOn 14 = .ok (.invokestatic 65, 3) := by decide +kernel
theorem dX5_nodesOn_17 : decode cX5_nodesOn 17 = .ok (.ifCond .eq 29, 3) := by decide +kernel
theorem dX5_nodesOn_20 : decode cX5_nodesOn 20 = .ok (.iload_n 2, 1) := by decide +kernel
theorem dX5_nodesOn_21 : decode cX5_nodesOn 21 = .ok (.iconst 1, 1) := by decide +kernel
theorem dX5_nodesOn_22 : decode cX5_nodesOn 22 = .ok (.aload_n 0, 1) := by decide +kernel
theorem dX5_nodesOn_23 : decode cX5_nodesOn 23 = .ok (.getfield 17, 3) := by decide +kernel
theorem dX5_nodesOn_26 : decode cX5_nodesOn 26 = .ok (.iload_n 3, 1) := by decide +kernel
theorem dX5_nodesOn_27 : decode cX5_nodesOn 27 = .ok (.aaload, 1) := by decide +kernel
theorem dX5_nodesOn_28 : decode cX5_nodesOn 28 = .ok (.getfield 40, 3) := by decide +kernel
theorem dX5_nodesOn_31 : decode cX5_nodesOn 31 = .ok (.ishl, 1) := by decide +kernel
theorem dX5_nodesOn_32 : decode cX5_nodesOn 32 = .ok (.iconst 1, 1) := by decide +kernel
theorem dX5_nodesOn_33 : decode cX5_nodesOn 33 = .ok (.aload_n 0, 1) := by decide +kernel
theorem dX5_nodesOn_34 : decode cX5_nodesOn 34 = .ok (.getfield 17, 3) := by decide +kernel
theorem dX5_nodesOn_37 : decode cX5_nodesOn 37 = .ok (.iload_n 3, 1) := by decide +kernel
theorem dX5_nodesOn_38 : decode cX5_nodesOn 38 = .ok (.aaload, 1) := by decide +kernel
theorem dX5_nodesOn_39 : decode cX5_nodesOn 39 = .ok (.getfield 43, 3) := by decide +kernel
theorem dX5_nodesOn_42 : decode cX5_nodesOn 42 = .ok (.ishl, 1) := by decide +kernel
theorem dX5_nodesOn_43 : decode cX5_nodesOn 43 = .ok (.ior, 1) := by decide +kernel
theorem dX5_nodesOn_44 : decode cX5_nodesOn 44 = .ok (.ior, 1) := by decide +kernel
theorem dX5_nodesOn_45 : decode cX5_nodesOn 45 = .ok (.istore_n 2, 1) := by decide +kernel
theorem dX5_nodesOn_46 : decode cX5_nodesOn 46 = .ok (.iinc 3 1, 3) := by decide +kernel
theorem dX5_nodesOn_49 : decode cX5_nodesOn 49 = .ok (.goto (-45), 3) := by decide +kernel
theorem dX5_nodesOn_52 : decode cX5_nodesOn 52 = .ok (.iload_n 2, 1) := by decide +kernel
theorem dX5_nodesOn_53 : decode cX5_nodesOn 53 = .ok (.ireturn, 1) := by decide +kernel
theorem dX5_lineAlong_0 : decode cX5_lineAlong 0 = .ok (.iload_n 1, 1) := by decide +kernel
theorem dX5_lineAlong_1 : decode cX5_lineAlong 1 = .ok (.istore 4, 2) := by decide +kernel
theorem dX5_lineAlong_3 : decode cX5_lineAlong 3 = .ok (.iload_n 2, 1) := by decide +kernel
theorem dX5_lineAlong_4 : decode cX5_lineAlong 4 = .ok (.istore 5, 2) := by decide +kernel
theorem dX5_lineAlong_6 : decode cX5_lineAlong 6 = .ok (.iconst (-1), 1) := by decide +kernel
theorem dX5_lineAlong_7 : decode cX5_lineAlong 7 = .ok (.istore 6, 2) := by decide +kernel
theorem dX5_lineAlong_9 : decode cX5_lineAlong 9 = .ok (.iconst 0, 1) := by decide +kernel
theorem dX5_lineAlong_10 : decode cX5_lineAlong 10 = .ok (.istore 7, 2) := by decide +kernel
theorem dX5_lineAlong_12 : decode cX5_lineAlong 12 = .ok (.iload 7, 2) := by decide +kernel
theorem dX5_lineAlong_14 : decode cX5_lineAlong 14 = .ok (.iload_n 3, 1) := by decide +kernel
theorem dX5_lineAlong_15 : decode cX5_lineAlong 15 = .ok (.if_icmp .gt 58, 3) := by decide +kernel
theorem dX5_lineAlong_18 : decode cX5_lineAlong 18 = .ok (.iload 7, 2) := by decide +kernel
theorem dX5_lineAlong_20 : decode cX5_lineAlong 20 = .ok (.bipush 9, 2) := by decide +kernel
theorem dX5_lineAlong_22 : decode cX5_lineAlong 22 = .ok (.if_icmp .ge 51, 3) := by decide +kernel
theorem dX5_lineAlong_25 : decode cX5_lineAlong 25 = .ok (.aload_n 0, 1) := by decide +kernel
theorem dX5_lineAlong_26 : decode cX5_lineAlong 26 = .ok (.iload 4, 2) := by decide +kernel
theorem dX5_lineAlong_28 : decode cX5_lineAlong 28 = .ok (.iload 5, 2) := by decide +kernel
theorem dX5_lineAlong_30 : decode cX5_lineAlong 30 = .ok (.invokevirtual 69, 3) := by decide +kernel
theorem dX5_lineAlong_33 : decode cX5_lineAlong 33 = .ok (.istore 6, 2) := by decide +kernel
theorem dX5_lineAlong_35 : decode cX5_lineAlong 35 = .ok (.iload 6, 2) := by decide +kernel
theorem dX5_lineAlong_37 : decode cX5_lineAlong 37 = .ok (.ifCond .ge 5, 3) := by decide +kernel
theorem dX5_lineAlong_40 : decode cX5_lineAlong 40 = .ok (.iconst (-1), 1) := by decide +kernel
theorem dX5_lineAlong_41 : decode cX5_lineAlong 41 = .ok (.ireturn, 1) := by decide +kernel
theorem dX5_lineAlong_42 : decode cX5_lineAlong 42 = .ok (.aload_n 0, 1) := by decide +kernel
theorem dX5_lineAlong_43 : decode cX5_lineAlong 43 = .ok (.getfield 17, 3) := by decide +kernel
theorem dX5_lineAlong_46 : decode cX5_lineAlong 46 = .ok (.iload 6, 2) := by decide +kernel
theorem dX5_lineAlong_48 : decode cX5_lineAlong 48 = .ok (.aaload, 1) := by decide +kernel
theorem dX5_lineAlong_49 : decode cX5_lineAlong 49 = .ok (.iload 4, 2) := by decide +kernel
theorem dX5_lineAlong_51 : decode cX5_lineAlong 51 = .ok (.invokevirtual 73, 3) := by decide +kernel
theorem dX5_lineAlong_54 : decode cX5_lineAlong 54 = .ok (.istore 4, 2) := by decide +kernel
theorem dX5_lineAlong_56 : decode cX5_lineAlong 56 = .ok (.iload 5, 2) := by decide +kernel
theorem dX5_lineAlong_58 : decode cX5_lineAlong 58 = .ok (.iconst 1, 1) := by decide +kernel
theorem dX5_lineAlong_59 : decode cX5_lineAlong 59 = .ok (.iload 6, 2) := by decide +kernel
theorem dX5_lineAlong_61 : decode cX5_lineAlong 61 = .ok (.ishl, 1) := by decide +kernel
theorem dX5_lineAlong_62 : decode cX5_lineAlong 62 = .ok (.iconst (-1), 1) := by decide +kernel
theorem dX5_lineAlong_63 : decode cX5_lineAlong 63 = .ok (.ixor, 1) := by decide +kernel
theorem dX5_lineAlong_64 : decode cX5_lineAlong 64 = .ok (.iand, 1) := by decide +kernel
theorem dX5_lineAlong_65 : decode cX5_lineAlong 65 = .ok (.istore 5, 2) := by decide +kernel
theorem dX5_lineAlong_67 : decode cX5_lineAlong 67 = .ok (.iinc 7 1, 3) := by decide +kernel
theorem dX5_lineAlong_70 : decode cX5_lineAlong 70 = .ok (.goto (-58), 3) := by decide +kernel
theorem dX5_lineAlong_73 : decode cX5_lineAlong 73 = .ok (.iload_n 3, 1) := by decide +kernel
theorem dX5_lineAlong_74 : decode cX5_lineAlong 74 = .ok (.bipush 9, 2) := by decide +kernel
theorem dX5_lineAlong_76 : decode cX5_lineAlong 76 = .ok (.if_icmp .ge 8, 3) := by decide +kernel
theorem dX5_lineAlong_79 : decode cX5_lineAlong 79 = .ok (.iload 6, 2) := by decide +kernel
theorem dX5_lineAlong_81 : decode cX5_lineAlong 81 = .ok (.goto 4, 3) := by decide +kernel
theorem dX5_lineAlong_84 : decode cX5_lineAlong 84 = .ok (.iconst (-1), 1) := by decide +kernel
theorem dX5_lineAlong_85 : decode cX5_lineAlong 85 = .ok (.ireturn, 1) := by decide +kernel
theorem dX5_lineFrom_0 : decode cX5_lineFrom 0 = .ok (.iconst 0, 1) := by decide +kernel
theorem dX5_lineFrom_1 : decode cX5_lineFrom 1 = .ok (.istore_n 3, 1) := by decide +kernel
theorem dX5_lineFrom_2 : decode cX5_lineFrom 2 = .ok (.iload_n 3, 1) := by decide +kernel
theorem dX5_lineFrom_3 : decode cX5_lineFrom 3 = .ok (.aload_n 0, 1) := by decide +kernel
theorem dX5_lineFrom_4 : decode cX5_lineFrom 4 = .ok (.getfield 33, 3) := by decide +kernel
theorem dX5_lineFrom_7 : decode cX5_lineFrom 7 = .ok (.if_icmp .ge 32, 3) := by decide +kernel
theorem dX5_lineFrom_10 : decode cX5_lineFrom 10 = .ok (.iload_n 2, 1) := by decide +kernel
theorem dX5_lineFrom_11 : decode cX5_lineFrom 11 = .ok (.iload_n 3, 1) := by decide +kernel
theorem dX5_lineFrom_12 : decode cX5_lineFrom 12 = .ok (.invokestatic 65, 3) := by decide +kernel
theorem dX5_lineFrom_15 : decode cX5_lineFrom 15 = .ok (.ifCond .eq 18, 3) := by decide +kernel
theorem dX5_lineFrom_18 : decode cX5_lineFrom 18 = .ok (.aload_n 0, 1) := by decide +kernel
theorem dX5_lineFrom_19 : decode cX5_lineFrom 19 = .ok (.getfield 17, 3) := by decide +kernel
theorem dX5_lineFrom_22 : decode cX5_lineFrom 22 = .ok (.iload_n 3, 1) := by decide +kernel
theorem dX5_lineFrom_23 : decode cX5_lineFrom 23 = .ok (.aaload, 1) := by decide +kernel
theorem dX5_lineFrom_24 : decode cX5_lineFrom 24 = .ok (.iload_n 1, 1) := by decide +kernel
theorem dX5_lineFrom_25 : decode cX5_lineFrom 25 = .ok (.invokevirtual 73, 3) := by decide +kernel
theorem dX5_lineFrom_28 : decode cX5_lineFrom 28 = .ok (.ifCond .lt 5, 3) := by decide +kernel
theorem dX5_lineFrom_31 : decode cX5_lineFrom 31 = .ok (.iload_n 3, 1) := by decide +kernel
theorem dX5_lineFrom_32 : decode cX5_lineFrom 32 = .ok (.ireturn, 1) := by decide +kernel
theorem dX5_lineFrom_33 : decode cX5_lineFrom 33 = .ok (.iinc 3 1, 3) := by decide +kernel
theorem dX5_lineFrom_36 : decode cX5_lineFrom 36 = .ok (.goto (-34), 3) := by decide +kernel
theorem dX5_lineFrom_39 : decode cX5_lineFrom 39 = .ok (.iconst (-1), 1) := by decide +kernel
theorem dX5_lineFrom_40 : decode cX5_lineFrom 40 = .ok (.ireturn, 1) := by decide +kernel
theorem dX6_init_0 : decode cX6_init 0 = .ok (.aload_n 0, 1) := by decide +kernel
theorem dX6_init_1 : decode cX6_init 1 = .ok (.invokespecial 3, 3) := by decide +kernel
theorem dX6_init_4 : decode cX6_init 4 = .ok (.aload_n 0, 1) := by decide +kernel
theorem dX6_init_5 : decode cX6_init 5 = .ok (.iconst 0, 1) := by decide +kernel
theorem dX6_init_6 : decode cX6_init 6 = .ok (.newarray .int, 2) := by decide +kernel
theorem dX6_init_8 : decode cX6_init 8 = .ok (.putfield 9, 3) := by decide +kernel
theorem dX6_init_11 : decode cX6_init 11 = .ok (.aload_n 0, 1) := by decide +kernel
theorem dX6_init_12 : decode cX6_init 12 = .ok (.iconst 0, 1) := by decide +kernel
theorem dX6_init_13 : decode cX6_init 13 = .ok (.newarray .int, 2) := by decide +kernel
theorem dX6_init_15 : decode cX6_init 15 = .ok (.putfield 15, 3) := by decide +kernel
theorem dX6_init_18 : decode cX6_init 18 = .ok (.aload_n 0, 1) := by decide +kernel
theorem dX6_init_19 : decode cX6_init 19 = .ok (.iconst (-1), 1) := by decide +kernel
theorem dX6_init_20 : decode cX6_init 20 = .ok (.putfield 18, 3) := by decide +kernel
theorem dX6_init_23 : decode cX6_init 23 = .ok (.return_, 1) := by decide +kernel
theorem dX6_placeAt_0 : decode cX6_placeAt 0 = .ok (.aload_n 0, 1) := by decide +kernel
theorem dX6_placeAt_1 : decode cX6_placeAt 1 = .ok (.getfield 9, 3) := by decide +kernel
theorem dX6_placeAt_4 : decode cX6_placeAt 4 = .ok (.iload_n 1, 1) := by decide +kernel
theorem dX6_placeAt_5 : decode cX6_placeAt 5 = .ok (.iaload, 1) := by decide +kernel
theorem dX6_placeAt_6 : decode cX6_placeAt 6 = .ok (.ireturn, 1) := by decide +kernel
theorem dX6_upAt_0 : decode cX6_upAt 0 = .ok (.aload_n 0, 1) := by decide +kernel
theorem dX6_upAt_1 : decode cX6_upAt 1 = .ok (.getfield 15, 3) := by decide +kernel
theorem dX6_upAt_4 : decode cX6_upAt 4 = .ok (.iload_n 1, 1) := by decide +kernel
theorem dX6_upAt_5 : decode cX6_upAt 5 = .ok (.iaload, 1) := by decide +kernel
theorem dX6_upAt_6 : decode cX6_upAt 6 = .ok (.ireturn, 1) := by decide +kernel
theorem dX6_find_0 : decode cX6_find 0 = .ok (.aload_n 1, 1) := by decide +kernel
theorem dX6_find_1 : decode cX6_find 1 = .ok (.getfield 22, 3) := by decide +kernel
theorem dX6_find_4 : decode cX6_find 4 = .ok (.aload_n 0, 1) := by decide +kernel
theorem dX6_find_5 : decode cX6_find 5 = .ok (.getfield 18, 3) := by decide +kernel
theorem dX6_find_8 : decode cX6_find 8 = .ok (.if_icmp .ne 4, 3) := by decide +kernel
theorem dX6_find_11 : decode cX6_find 11 = .ok (.return_, 1) := by decide +kernel
theorem dX6_find_12 : decode cX6_find 12 = .ok (.aload_n 0, 1) := by decide +kernel
theorem dX6_find_13 : decode cX6_find 13 = .ok (.aload_n 1, 1) := by decide +kernel
theorem dX6_find_14 : decode cX6_find 14 = .ok (.getfield 22, 3) := by decide +kernel
theorem dX6_find_17 : decode cX6_find 17 = .ok (.putfield 18, 3) := by decide +kernel
theorem dX6_find_20 : decode cX6_find 20 = .ok (.aload_n 1, 1) := by decide +kernel
theorem dX6_find_21 : decode cX6_find 21 = .ok (.aload_n 2, 1) := by decide +kernel
theorem dX6_find_22 : decode cX6_find 22 = .ok (.getfield 27, 3) := by decide +kernel
theorem dX6_find_25 : decode cX6_find 25 = .ok (.aload_n 2, 1) := by decide +kernel
theorem dX6_find_26 : decode cX6_find 26 = .ok (.getfield 32, 3) := by decide +kernel
theorem dX6_find_29 : decode cX6_find 29 = .ok (.invokevirtual 35, 3) := by decide +kernel
theorem dX6_find_32 : decode cX6_find 32 = .ok (.astore_n 3, 1) := by decide +kernel
theorem dX6_find_33 : decode cX6_find 33 = .ok (.aload_n 0, 1) := by decide +kernel
theorem dX6_find_34 : decode cX6_find 34 = .ok (.aload_n 1, 1) := by decide +kernel
theorem dX6_find_35 : decode cX6_find 35 = .ok (.aload_n 2, 1) := by decide +kernel
theorem dX6_find_36 : decode cX6_find 36 = .ok (.aload_n 3, 1) := by decide +kernel
theorem dX6_find_37 : decode cX6_find 37 = .ok (.invokevirtual 39, 3) := by decide +kernel
theorem dX6_find_40 : decode cX6_find 40 = .ok (.aload_n 0, 1) := by decide +kernel
theorem dX6_find_41 : decode cX6_find 41 = .ok (.getfield 43, 3) := by decide +kernel
theorem dX6_find_44 : decode cX6_find 44 = .ok (.aload_n 0, 1) := by decide +kernel
theorem dX6_find_45 : decode cX6_find 45 = .ok (.getfield 9, 3) := by decide +kernel
theorem dX6_find_48 : decode cX6_find 48 = .ok (.arraylength, 1) := by decide +kernel
theorem dX6_find_49 : decode cX6_find 49 = .ok (.if_icmp .le 30, 3) := by decide +kernel
theorem dX6_find_52 : decode cX6_find 52 = .ok (.aload_n 0, 1) := by decide +kernel
theorem dX6_find_53 : decode cX6_find 53 = .ok (.aload_n 0, 1) := by decide +kernel
theorem dX6_find_54 : decode cX6_find 54 = .ok (.getfield 43, 3) := by decide +kernel
theorem dX6_find_57 : decode cX6_find 57 = .ok (.newarray .int, 2) := by decide +kernel
theorem dX6_find_59 : decode cX6_find 59 = .ok (.putfield 9, 3) := by decide +kernel
theorem dX6_find_62 : decode cX6_find 62 = .ok (.aload_n 0, 1) := by decide +kernel
theorem dX6_find_63 : decode cX6_find 63 = .ok (.aload_n 0, 1) := by decide +kernel
theorem dX6_find_64 : decode cX6_find 64 = .ok (.getfield 43, 3) := by decide +kernel
theorem dX6_find_67 : decode cX6_find 67 = .ok (.newarray .int, 2) := by decide +kernel
theorem dX6_find_69 : decode cX6_find 69 = .ok (.putfield 15, 3) := by decide +kernel
theorem dX6_find_72 : decode cX6_find 72 = .ok (.aload_n 0, 1) := by decide +kernel
theorem dX6_find_73 : decode cX6_find 73 = .ok (.aload_n 1, 1) := by decide +kernel
theorem dX6_find_74 : decode cX6_find 74 = .ok (.aload_n 2, 1) := by decide +kernel
theorem dX6_find_75 : decode cX6_find 75 = .ok (.aload_n 3, 1) := by decide +kernel
theorem dX6_find_76 : decode cX6_find 76 = .ok (.invokevirtual 39, 3) := by decide +kernel
theorem dX6_find_79 : decode cX6_find 79 = .ok (.return_, 1) := by decide +kernel
theorem dX6_keepUp_0 : decode cX6_keepUp 0 = .ok (.aload_n 0, 1) := by decide +kernel
theorem dX6_keepUp_1 : decode cX6_keepUp 1 = .ok (.iconst 0, 1) := by decide +kernel
theorem dX6_keepUp_2 : decode cX6_keepUp 2 = .ok (.putfield 46, 3) := by decide +kernel
theorem dX6_keepUp_5 : decode cX6_keepUp 5 = .ok (.iconst 0, 1) := by decide +kernel
theorem dX6_keepUp_6 : decode cX6_keepUp 6 = .ok (.istore_n 2, 1) := by decide +kernel
theorem dX6_keepUp_7 : decode cX6_keepUp 7 = .ok (.iload_n 2, 1) := by decide +kernel
theorem dX6_keepUp_8 : decode cX6_keepUp 8 = .ok (.aload_n 0, 1) := by decide +kernel
theorem dX6_keepUp_9 : decode cX6_keepUp 9 = .ok (.getfield 43, 3) := by decide +kernel
theorem dX6_keepUp_12 : decode cX6_keepUp 12 = .ok (.if_icmp .ge 50, 3) := by decide +kernel
theorem dX6_keepUp_15 : decode cX6_keepUp 15 = .ok (.aload_n 1, 1) := by decide +kernel
theorem dX6_keepUp_16 : decode cX6_keepUp 16 = .ok (.aload_n 0, 1) := by decide +kernel
theorem dX6_keepUp_17 : decode cX6_keepUp 17 = .ok (.getfield 9, 3) := by decide +kernel
theorem dX6_keepUp_20 : decode cX6_keepUp 20 = .ok (.iload_n 2, 1) := by decide +kernel
theorem dX6_keepUp_21 : decode cX6_keepUp 21 = .ok (.iaload, 1) := by decide +kernel
theorem dX6_keepUp_22 : decode cX6_keepUp 22 = .ok (.invokestatic 49, 3) := by decide +kernel
theorem dX6_keepUp_25 : decode cX6_keepUp 25 = .ok (.invokevirtual 53, 3) := by decide +kernel
theorem dX6_keepUp_28 : decode cX6_keepUp 28 = .ok (.ifCond .eq 28, 3) := by decide +kernel
theorem dX6_keepUp_31 : decode cX6_keepUp 31 = .ok (.aload_n 0, 1) := by decide +kernel
theorem dX6_keepUp_32 : decode cX6_keepUp 32 = .ok (.getfield 15, 3) := by decide +kernel
theorem dX6_keepUp_35 : decode cX6_keepUp 35 = .ok (.aload_n 0, 1) := by decide +kernel
theorem dX6_keepUp_36 : decode cX6_keepUp 36 = .ok (.getfield 46, 3) := by decide +kernel
theorem dX6_keepUp_39 : decode cX6_keepUp 39 = .ok (.aload_n 0, 1) := by decide +kernel
theorem dX6_keepUp_40 : decode cX6_keepUp 40 = .ok (.getfield 9, 3) := by decide +kernel
theorem dX6_keepUp_43 : decode cX6_keepUp 43 = .ok (.iload_n 2, 1) := by decide +kernel
theorem dX6_keepUp_44 : decode cX6_keepUp 44 = .ok (.iaload, 1) := by decide +kernel
theorem dX6_keepUp_45 : decode cX6_keepUp 45 = .ok (.iastore, 1) := by decide +kernel
theorem dX6_keepUp_46 : decode cX6_keepUp 46 = .ok (.aload_n 0, 1) := by decide +kernel
theorem dX6_keepUp_47 : decode cX6_keepUp 47 = .ok (.dup, 1) := by decide +kernel
theorem dX6_keepUp_48 : decode cX6_keepUp 48 = .ok (.getfield 46, 3) := by decide +kernel
theorem dX6_keepUp_51 : decode cX6_keepUp 51 = .ok (.iconst 1, 1) := by decide +kernel
theorem dX6_keepUp_52 : decode cX6_keepUp 52 = .ok (.iadd, 1) := by decide +kernel
theorem dX6_keepUp_53 : decode cX6_keepUp 53 = .ok (.putfield 46, 3) := by decide +kernel
theorem dX6_keepUp_56 : decode cX6_keepUp 56 = .ok (.iinc 2 1, 3) := by decide +kernel
theorem dX6_keepUp_59 : decode cX6_keepUp 59 = .ok (.goto (-52), 3) := by decide +kernel
theorem dX6_keepUp_62 : decode cX6_keepUp 62 = .ok (.return_, 1) := by decide +kernel
theorem dX6_gather_0 : decode cX6_gather 0 = .ok (.aload_n 0, 1) := by decide +kernel
theorem dX6_gather_1 : decode cX6_gather 1 = .ok (.iconst 0, 1) := by decide +kernel
theorem dX6_gather_2 : decode cX6_gather 2 = .ok (.putfield 43, 3) := by decide +kernel
theorem dX6_gather_5 : decode cX6_gather 5 = .ok (.iconst 0, 1) := by decide +kernel
theorem dX6_gather_6 : decode cX6_gather 6 = .ok (.istore 4, 2) := by decide +kernel
theorem dX6_gather_8 : decode cX6_gather 8 = .ok (.iload 4, 2) := by decide +kernel
theorem dX6_gather_10 : decode cX6_gather 10 = .ok (.aload_n 3, 1) := by decide +kernel
theorem dX6_gather_11 : decode cX6_gather 11 = .ok (.getfield 57, 3) := by decide +kernel
theorem dX6_gather_14 : decode cX6_gather 14 = .ok (.if_icmp .ge 71, 3) := by decide +kernel
theorem dX6_gather_17 : decode cX6_gather 17 = .ok (.aload_n 3, 1) := by decide +kernel
theorem dX6_gather_18 : decode cX6_gather 18 = .ok (.iload 4, 2) := by decide +kernel
theorem dX6_gather_20 : decode cX6_gather 20 = .ok (.invokevirtual 60, 3) := by decide +kernel
theorem dX6_gather_23 : decode cX6_gather 23 = .ok (.istore 5, 2) := by decide +kernel
theorem dX6_gather_25 : decode cX6_gather 25 = .ok (.iload 5, 2) := by decide +kernel
theorem dX6_gather_27 : decode cX6_gather 27 = .ok (.invokestatic 63, 3) := by decide +kernel
theorem dX6_gather_30 : decode cX6_gather 30 = .ok (.aload_n 2, 1) := by decide +kernel
theorem dX6_gather_31 : decode cX6_gather 31 = .ok (.getfield 66, 3) := by decide +kernel
theorem dX6_gather_34 : decode cX6_gather 34 = .ok (.if_icmp .le 4, 3) := by decide +kernel
theorem dX6_gather_37 : decode cX6_gather 37 = .ok (.return_, 1) := by decide +kernel
theorem dX6_gather_38 : decode cX6_gather 38 = .ok (.iload 5, 2) := by decide +kernel
theorem dX6_gather_40 : decode cX6_gather 40 = .ok (.invokestatic 69, 3) := by decide +kernel
theorem dX6_gather_43 : decode cX6_gather 43 = .ok (.istore 6, 2) := by decide +kernel
theorem dX6_gather_45 : decode cX6_gather 45 = .ok (.aload_n 2, 1) := by decide +kernel
theorem dX6_gather_46 : decode cX6_gather 46 = .ok (.iconst 1, 1) := by decide +kernel
theorem dX6_gather_47 : decode cX6_gather 47 = .ok (.invokevirtual 72, 3) := by decide +kernel
theorem dX6_gather_50 : decode cX6_gather 50 = .ok (.ifCond .eq 15, 3) := by decide +kernel
theorem dX6_gather_53 : decode cX6_gather 53 = .ok (.aload_n 0, 1) := by decide +kernel
theorem dX6_gather_54 : decode cX6_gather 54 = .ok (.aload_n 1, 1) := by decide +kernel
theorem dX6_gather_55 : decode cX6_gather 55 = .ok (.aload_n 2, 1) := by decide +kernel
theorem dX6_gather_56 : decode cX6_gather 56 = .ok (.aload_n 3, 1) := by decide +kernel
theorem dX6_gather_57 : decode cX6_gather 57 = .ok (.iload 6, 2) := by decide +kernel
theorem dX6_gather_59 : decode cX6_gather 59 = .ok (.invokevirtual 75, 3) := by decide +kernel
theorem dX6_gather_62 : decode cX6_gather 62 = .ok (.goto 17, 3) := by decide +kernel
theorem dX6_gather_65 : decode cX6_gather 65 = .ok (.aload_n 0, 1) := by decide +kernel
theorem dX6_gather_66 : decode cX6_gather 66 = .ok (.aload_n 1, 1) := by decide +kernel
theorem dX6_gather_67 : decode cX6_gather 67 = .ok (.iload 6, 2) := by decide +kernel
theorem dX6_gather_69 : decode cX6_gather 69 = .ok (.iconst 0, 1) := by decide +kernel
theorem dX6_gather_70 : decode cX6_gather 70 = .ok (.aload_n 1, 1) := by decide +kernel
theorem dX6_gather_71 : decode cX6_gather 71 = .ok (.iload 6, 2) := by decide +kernel
theorem dX6_gather_73 : decode cX6_gather 73 = .ok (.invokevirtual 79, 3) := by decide +kernel
theorem dX6_gather_76 : decode cX6_gather 76 = .ok (.invokevirtual 82, 3) := by decide +kernel
theorem dX6_gather_79 : decode cX6_gather 79 = .ok (.iinc 4 1, 3) := by decide +kernel
theorem dX6_gather_82 : decode cX6_gather 82 = .ok (.goto (-74), 3) := by decide +kernel
theorem dX6_gather_85 : decode cX6_gather 85 = .ok (.return_, 1) := by decide +kernel
theorem dX6_gatherSpares_0 : decode cX6_gatherSpares 0 = .ok (.iconst 0, 1) := by decide +kernel
theorem dX6_gatherSpares_1 : decode cX6_gatherSpares 1 = .ok (.istore 5, 2) := by decide +kernel
theorem dX6_gatherSpares_3 : decode cX6_gatherSpares 3 = .ok (.iload 5, 2) := by decide +kernel
theorem dX6_gatherSpares_5 : decode cX6_gatherSpares 5 = .ok (.aload_n 3, 1) := by decide +kernel
theorem dX6_gatherSpares_6 : decode cX6_gatherSpares 6 = .ok (.getfield 57, 3) := by decide +kernel
theorem dX6_gatherSpares_9 : decode cX6_gatherSpares 9 = .ok (.if_icmp .ge 66, 3) := by decide +kernel
theorem dX6_gatherSpares_12 : decode cX6_gatherSpares 12 = .ok (.aload_n 3, 1) := by decide +kernel
theorem dX6_gatherSpares_13 : decode cX6_gatherSpares 13 = .ok (.iload 5, 2) := by decide +kernel
theorem dX6_gatherSpares_15 : decode cX6_gatherSpares 15 = .ok (.invokevirtual 60, 3) := by decide +kernel
theorem dX6_gatherSpares_18 : decode cX6_gatherSpares 18 = .ok (.istore 6, 2) := by decide +kernel
theorem dX6_gatherSpares_20 : decode cX6_gatherSpares 20 = .ok (.iload 6, 2) := by decide +kernel
theorem dX6_gatherSpares_22 : decode cX6_gatherSpares 22 = .ok (.invokestatic 69, 3) := by decide +kernel
theorem dX6_gatherSpares_25 : decode cX6_gatherSpares 25 = .ok (.istore 7, 2) := by decide +kernel
theorem dX6_gatherSpares_27 : decode cX6_gatherSpares 27 = .ok (.iload 6, 2) := by decide +kernel
theorem dX6_gatherSpares_29 : decode cX6_gatherSpares 29 = .ok (.invokestatic 63, 3) := by decide +kernel
theorem dX6_gatherSpares_32 : decode cX6_gatherSpares 32 = .ok (.aload_n 2, 1) := by decide +kernel
theorem dX6_gatherSpares_33 : decode cX6_gatherSpares 33 = .ok (.getfield 66, 3) := by decide +kernel
theorem dX6_gatherSpares_36 : decode cX6_gatherSpares 36 = .ok (.if_icmp .gt 33, 3) := by decide +kernel
theorem dX6_gatherSpares_39 : decode cX6_gatherSpares 39 = .ok (.iload 4, 2) := by decide +kernel
theorem dX6_gatherSpares_41 : decode cX6_gatherSpares 41 = .ok (.iload 7, 2) := by decide +kernel
theorem dX6_gatherSpares_43 : decode cX6_gatherSpares 43 = .ok (.iand, 1) := by decide +kernel
theorem dX6_gatherSpares_44 : decode cX6_gatherSpares 44 = .ok (.ifCond .ne 25, 3) := by decide +kernel
theorem dX6_gatherSpares_47 : decode cX6_gatherSpares 47 = .ok (.aload_n 0, 1) := by decide +kernel
theorem dX6_gatherSpares_48 : decode cX6_gatherSpares 48 = .ok (.aload_n 1, 1) := by decide +kernel
theorem dX6_gatherSpares_49 : decode cX6_gatherSpares 49 = .ok (.iload 4, 2) := by decide +kernel
theorem dX6_gatherSpares_51 : decode cX6_gatherSpares 51 = .ok (.iload 7, 2) := by decide +kernel
theorem dX6_gatherSpares_53 : decode cX6_gatherSpares 53 = .ok (.aload_n 1, 1) := by decide +kernel
theorem dX6_gatherSpares_54 : decode cX6_gatherSpares 54 = .ok (.iload 4, 2) := by decide +kernel
theorem dX6_gatherSpares_56 : decode cX6_gatherSpares 56 = .ok (.invokevirtual 79, 3) := by decide +kernel
theorem dX6_gatherSpares_59 : decode cX6_gatherSpares 59 = .ok (.aload_n 1, 1) := by decide +kernel
theorem dX6_gatherSpares_60 : decode cX6_gatherSpares 60 = .ok (.iload 7, 2) := by decide +kernel
theorem dX6_gatherSpares_62 : decode cX6_gatherSpares 62 = .ok (.invokevirtual 79, 3) := by decide +kernel
theorem dX6_gatherSpares_65 : decode cX6_gatherSpares 65 = .ok (.iand, 1) := by decide +kernel
theorem dX6_gatherSpares_66 : decode cX6_gatherSpares 66 = .ok (.invokevirtual 82, 3) := by decide +kernel
theorem dX6_gatherSpares_69 : decode cX6_gatherSpares 69 = .ok (.iinc 5 1, 3) := by decide +kernel
theorem dX6_gatherSpares_72 : decode cX6_gatherSpares 72 = .ok (.goto (-69), 3) := by decide +kernel
theorem dX6_gatherSpares_75 : decode cX6_gatherSpares 75 = .ok (.return_, 1) := by decide +kernel
theorem dX6_gatherHosts_0 : decode cX6_gatherHosts 0 = .ok (.iconst 0, 1) := by decide +kernel
theorem dX6_gatherHosts_1 : decode cX6_gatherHosts 1 = .ok (.istore 5, 2) := by decide +kernel
theorem dX6_gatherHosts_3 : decode cX6_gatherHosts 3 = .ok (.iload 5, 2) := by decide +kernel
theorem dX6_gatherHosts_5 : decode cX6_gatherHosts 5 = .ok (.aload_n 1, 1) := by decide +kernel
theorem dX6_gatherHosts_6 : decode cX6_gatherHosts 6 = .ok (.getfield 86, 3) := by decide +kernel
theorem dX6_gatherHosts_9 : decode cX6_gatherHosts 9 = .ok (.if_icmp .ge 57, 3) := by decide +kernel
theorem dX6_gatherHosts_12 : decode cX6_gatherHosts 12 = .ok (.iload 4, 2) := by decide +kernel
theorem dX6_gatherHosts_14 : decode cX6_gatherHosts 14 = .ok (.iload 5, 2) := by decide +kernel
theorem dX6_gatherHosts_16 : decode cX6_gatherHosts 16 = .ok (.invokestatic 89, 3) := by decide +kernel
theorem dX6_gatherHosts_19 : decode cX6_gatherHosts 19 = .ok (.ifCond .eq 41, 3) := by decide +kernel
theorem dX6_gatherHosts_22 : decode cX6_gatherHosts 22 = .ok (.aload_n 0, 1) := by decide +kernel
theorem dX6_gatherHosts_23 : decode cX6_gatherHosts 23 = .ok (.getfield 43, 3) := by decide +kernel
theorem dX6_gatherHosts_26 : decode cX6_gatherHosts 26 = .ok (.aload_n 0, 1) := by decide +kernel
theorem dX6_gatherHosts_27 : decode cX6_gatherHosts 27 = .ok (.getfield 9, 3) := by decide +kernel
theorem dX6_gatherHosts_30 : decode cX6_gatherHosts 30 = .ok (.arraylength, 1) := by decide +kernel
theorem dX6_gatherHosts_31 : decode cX6_gatherHosts 31 = .ok (.if_icmp .ge 19, 3) := by decide +kernel
theorem dX6_gatherHosts_34 : decode cX6_gatherHosts 34 = .ok (.aload_n 0, 1) := by decide +kernel
theorem dX6_gatherHosts_35 : decode cX6_gatherHosts 35 = .ok (.getfield 9, 3) := by decide +kernel
theorem dX6_gatherHosts_38 : decode cX6_gatherHosts 38 = .ok (.aload_n 0, 1) := by decide +kernel
theorem dX6_gatherHosts_39 : decode cX6_gatherHosts 39 = .ok (.getfield 43, 3) := by decide +kernel
theorem dX6_gatherHosts_42 : decode cX6_gatherHosts 42 = .ok (.iload_n 2, 1) := by decide +kernel
theorem dX6_gatherHosts_43 : decode cX6_gatherHosts 43 = .ok (.iload_n 3, 1) := by decide +kernel
theorem dX6_gatherHosts_44 : decode cX6_gatherHosts 44 = .ok (.iload 5, 2) := by decide +kernel
theorem dX6_gatherHosts_46 : decode cX6_gatherHosts 46 = .ok (.invokestatic 93, 3) := by decide +kernel
theorem dX6_gatherHosts_49 : decode cX6_gatherHosts 49 = .ok (.iastore, 1) := by decide +kernel
theorem dX6_gatherHosts_50 : decode cX6_gatherHosts 50 = .ok (.aload_n 0, 1) := by decide +kernel
theorem dX6_gatherHosts_51 : decode cX6_gatherHosts 51 = .ok (.dup, 1) := by decide +kernel
theorem dX6_gatherHosts_52 : decode cX6_gatherHosts 52 = .ok (.getfield 43, 3) := by decide +kernel
theorem dX6_gatherHosts_55 : decode cX6_gatherHosts 55 = .ok (.iconst 1, 1) := by decide +kernel
theorem dX6_gatherHosts_56 : decode cX6_gatherHosts 56 = .ok (.iadd, 1) := by decide +kernel
theorem dX6_gatherHosts_57 : decode cX6_gatherHosts 57 = .ok (.putfield 43, 3) := by decide +kernel
theorem dX6_gatherHosts_60 : decode cX6_gatherHosts 60 = .ok (.iinc 5 1, 3) := by decide +kernel
theorem dX6_gatherHosts_63 : decode cX6_gatherHosts 63 = .ok (.goto (-60), 3) := by decide +kernel
theorem dX6_gatherHosts_66 : decode cX6_gatherHosts 66 = .ok (.return_, 1) := by decide +kernel
theorem dX7_init_0 : decode cX7_init 0 = .ok (.aload_n 0, 1) := by decide +kernel
theorem dX7_init_1 : decode cX7_init 1 = .ok (.invokespecial 3, 3) := by decide +kernel
theorem dX7_init_4 : decode cX7_init 4 = .ok (.aload_n 0, 1) := by decide +kernel
theorem dX7_init_5 : decode cX7_init 5 = .ok (.bipush 8, 2) := by decide +kernel
theorem dX7_init_7 : decode cX7_init 7 = .ok (.newarray .int, 2) := by decide +kernel
theorem dX7_init_9 : decode cX7_init 9 = .ok (.putfield 9, 3) := by decide +kernel
theorem dX7_init_12 : decode cX7_init 12 = .ok (.return_, 1) := by decide +kernel
theorem dX7_isMissing_0 : decode cX7_isMissing 0 = .ok (.aload_n 0, 1) := by decide +kernel
theorem dX7_isMissing_1 : decode cX7_isMissing 1 = .ok (.getfield 15, 3) := by decide +kernel
theorem dX7_isMissing_4 : decode cX7_isMissing 4 = .ok (.ifCond .ne 7, 3) := by decide +kernel
theorem dX7_isMissing_7 : decode cX7_isMissing 7 = .ok (.iconst 1, 1) := by decide +kernel
theorem dX7_isMissing_8 : decode cX7_isMissing 8 = .ok (.goto 4, 3) := by decide +kernel
theorem dX7_isMissing_11 : decode cX7_isMissing 11 = .ok (.iconst 0, 1) := by decide +kernel
theorem dX7_isMissing_12 : decode cX7_isMissing 12 = .ok (.ireturn, 1) := by decide +kernel
theorem dX7_begin_0 : decode cX7_begin 0 = .ok (.aload_n 0, 1) := by decide +kernel
theorem dX7_begin_1 : decode cX7_begin 1 = .ok (.iload_n 1, 1) := by decide +kernel
theorem dX7_begin_2 : decode cX7_begin 2 = .ok (.putfield 15, 3) := by decide +kernel
theorem dX7_begin_5 : decode cX7_begin 5 = .ok (.aload_n 0, 1) := by decide +kernel
theorem dX7_begin_6 : decode cX7_begin 6 = .ok (.iload_n 1, 1) := by decide +kernel
theorem dX7_begin_7 : decode cX7_begin 7 = .ok (.ifCond .ne 7, 3) := by decide +kernel
theorem dX7_begin_10 : decode cX7_begin 10 = .ok (.iconst 0, 1) := by decide +kernel
theorem dX7_begin_11 : decode cX7_begin 11 = .ok (.goto 4, 3) := by decide +kernel
theorem dX7_begin_14 : decode cX7_begin 14 = .ok (.iload_n 2, 1) := by decide +kernel
theorem dX7_begin_15 : decode cX7_begin 15 = .ok (.putfield 19, 3) := by decide +kernel
theorem dX7_begin_18 : decode cX7_begin 18 = .ok (.iconst 0, 1) := by decide +kernel
theorem dX7_begin_19 : decode cX7_begin 19 = .ok (.istore_n 3, 1) := by decide +kernel
theorem dX7_begin_20 : decode cX7_begin 20 = .ok (.iload_n 3, 1) := by decide +kernel
theorem dX7_begin_21 : decode cX7_begin 21 = .ok (.bipush 8, 2) := by decide +kernel
theorem dX7_begin_23 : decode cX7_begin 23 = .ok (.if_icmp .ge 16, 3) := by decide +kernel
theorem dX7_begin_26 : decode cX7_begin 26 = .ok (.aload_n 0, 1) := by decide +kernel
theorem dX7_begin_27 : decode cX7_begin 27 = .ok (.getfield 9, 3) := by decide +kernel
theorem dX7_begin_30 : decode cX7_begin 30 = .ok (.iload_n 3, 1) := by decide +kernel
theorem dX7_begin_31 : decode cX7_begin 31 = .ok (.iconst 0, 1) := by decide +kernel
theorem dX7_begin_32 : decode cX7_begin 32 = .ok (.iastore, 1) := by decide +kernel
theorem dX7_begin_33 : decode cX7_begin 33 = .ok (.iinc 3 1, 3) := by decide +kernel
theorem dX7_begin_36 : decode cX7_begin 36 = .ok (.goto (-16), 3) := by decide +kernel
theorem dX7_begin_39 : decode cX7_begin 39 = .ok (.aload_n 0, 1) := by decide +kernel
theorem dX7_begin_40 : decode cX7_begin 40 = .ok (.getfield 19, 3) := by decide +kernel
theorem dX7_begin_43 : decode cX7_begin 43 = .ok (.ireturn, 1) := by decide +kernel
theorem dX7_put_0 : decode cX7_put 0 = .ok (.aload_n 0, 1) := by decide +kernel
theorem dX7_put_1 : decode cX7_put 1 = .ok (.getfield 9, 3) := by decide +kernel
theorem dX7_put_4 : decode cX7_put 4 = .ok (.iload_n 1, 1) := by decide +kernel
theorem dX7_put_5 : decode cX7_put 5 = .ok (.iaload, 1) := by decide +kernel
theorem dX7_put_6 : decode cX7_put 6 = .ok (.istore_n 3, 1) := by decide +kernel
theorem dX7_put_7 : decode cX7_put 7 = .ok (.aload_n 0, 1) := by decide +kernel
theorem dX7_put_8 : decode cX7_put 8 = .ok (.getfield 9, 3) := by decide +kernel
theorem dX7_put_11 : decode cX7_put 11 = .ok (.iload_n 1, 1) := by decide +kernel
theorem dX7_put_12 : decode cX7_put 12 = .ok (.aload_n 0, 1) := by decide +kernel
theorem dX7_put_13 : decode cX7_put 13 = .ok (.iload_n 2, 1) := by decide +kernel
theorem dX7_put_14 : decode cX7_put 14 = .ok (.invokevirtual 22, 3) := by decide +kernel
theorem dX7_put_17 : decode cX7_put 17 = .ok (.iastore, 1) := by decide +kernel
theorem dX7_put_18 : decode cX7_put 18 = .ok (.iload_n 3, 1) := by decide +kernel
theorem dX7_put_19 : decode cX7_put 19 = .ok (.ireturn, 1) := by decide +kernel
theorem dX7_lowest_0 : decode cX7_lowest 0 = .ok (.aload_n 0, 1) := by decide +kernel
theorem dX7_lowest_1 : decode cX7_lowest 1 = .ok (.getfield 15, 3) := by decide +kernel
theorem dX7_lowest_4 : decode cX7_lowest 4 = .ok (.bipush 8, 2) := by decide +kernel
theorem dX7_lowest_6 : decode cX7_lowest 6 = .ok (.if_icmp .ne 6, 3) := by decide +kernel
theorem dX7_lowest_9 : decode cX7_lowest 9 = .ok (.iload_n 1, 1) := by decide +kernel
theorem dX7_lowest_10 : decode cX7_lowest 10 = .ok (.i2b, 1) := by decide +kernel
theorem dX7_lowest_11 : decode cX7_lowest 11 = .ok (.ireturn, 1) := by decide +kernel
theorem dX7_lowest_12 : decode cX7_lowest 12 = .ok (.aload_n 0, 1) := by decide +kernel
theorem dX7_lowest_13 : decode cX7_lowest 13 = .ok (.getfield 15, 3) := by decide +kernel
theorem dX7_lowest_16 : decode cX7_lowest 16 = .ok (.bipush 16, 2) := by decide +kernel
theorem dX7_lowest_18 : decode cX7_lowest 18 = .ok (.if_icmp .ne 8, 3) := by decide +kernel
theorem dX7_lowest_21 : decode cX7_lowest 21 = .ok (.iload_n 1, 1) := by decide +kernel
theorem dX7_lowest_22 : decode cX7_lowest 22 = .ok (.i2s, 1) := by decide +kernel
theorem dX7_lowest_23 : decode cX7_lowest 23 = .ok (.goto 4, 3) := by decide +kernel
theorem dX7_lowest_26 : decode cX7_lowest 26 = .ok (.iload_n 1, 1) := by decide +kernel
theorem dX7_lowest_27 : decode cX7_lowest 27 = .ok (.ireturn, 1) := by decide +kernel
theorem dX7_hasRun_0 : decode cX7_hasRun 0 = .ok (.iload_n 1, 1) := by decide +kernel
theorem dX7_hasRun_1 : decode cX7_hasRun 1 = .ok (.ifCond .lt 29, 3) := by decide +kernel
theorem dX7_hasRun_4 : decode cX7_hasRun 4 = .ok (.iload_n 2, 1) := by decide +kernel
theorem dX7_hasRun_5 : decode cX7_hasRun 5 = .ok (.ifCond .lt 25, 3) := by decide +kernel
theorem dX7_hasRun_8 : decode cX7_hasRun 8 = .ok (.iload_n 1, 1) := by decide +kernel
theorem dX7_hasRun_9 : decode cX7_hasRun 9 = .ok (.aload_n 0, 1) := by decide +kernel
theorem dX7_hasRun_10 : decode cX7_hasRun 10 = .ok (.getfield 19, 3) := by decide +kernel
theorem dX7_hasRun_13 : decode cX7_hasRun 13 = .ok (.if_icmp .gt 17, 3) := by decide +kernel
theorem dX7_hasRun_16 : decode cX7_hasRun 16 = .ok (.iload_n 2, 1) := by decide +kernel
theorem dX7_hasRun_17 : decode cX7_hasRun 17 = .ok (.aload_n 0, 1) := by decide +kernel
theorem dX7_hasRun_18 : decode cX7_hasRun 18 = .ok (.getfield 19, 3) := by decide +kernel
theorem dX7_hasRun_21 : decode cX7_hasRun 21 = .ok (.iload_n 1, 1) := by decide +kernel
theorem dX7_hasRun_22 : decode cX7_hasRun 22 = .ok (.isub, 1) := by decide +kernel
theorem dX7_hasRun_23 : decode cX7_hasRun 23 = .ok (.if_icmp .gt 7, 3) := by decide +kernel
theorem dX7_hasRun_26 : decode cX7_hasRun 26 = .ok (.iconst 1, 1) := by decide +kernel
theorem dX7_hasRun_27 : decode cX7_hasRun 27 = .ok (.goto 4, 3) := by decide +kernel
theorem dX7_hasRun_30 : decode cX7_hasRun 30 = .ok (.iconst 0, 1) := by decide +kernel
theorem dX7_hasRun_31 : decode cX7_hasRun 31 = .ok (.ireturn, 1) := by decide +kernel
theorem dX7_hasAbove_0 : decode cX7_hasAbove 0 = .ok (.iconst 0, 1) := by decide +kernel
theorem dX7_hasAbove_1 : decode cX7_hasAbove 1 = .ok (.istore_n 2, 1) := by decide +kernel
theorem dX7_hasAbove_2 : decode cX7_hasAbove 2 = .ok (.iload_n 2, 1) := by decide +kernel
theorem dX7_hasAbove_3 : decode cX7_hasAbove 3 = .ok (.aload_n 0, 1) := by decide +kernel
theorem dX7_hasAbove_4 : decode cX7_hasAbove 4 = .ok (.getfield 19, 3) := by decide +kernel
theorem dX7_hasAbove_7 : decode cX7_hasAbove 7 = .ok (.if_icmp .ge 21, 3) := by decide +kernel
theorem dX7_hasAbove_10 : decode cX7_hasAbove 10 = .ok (.aload_n 0, 1) := by decide +kernel
theorem dX7_hasAbove_11 : decode cX7_hasAbove 11 = .ok (.getfield 9, 3) := by decide +kernel
theorem dX7_hasAbove_14 : decode cX7_hasAbove 14 = .ok (.iload_n 2, 1) := by decide +kernel
theorem dX7_hasAbove_15 : decode cX7_hasAbove 15 = .ok (.iaload, 1) := by decide +kernel
theorem dX7_hasAbove_16 : decode cX7_hasAbove 16 = .ok (.iload_n 1, 1) := by decide +kernel
theorem dX7_hasAbove_17 : decode cX7_hasAbove 17 = .ok (.if_icmp .le 5, 3) := by decide +kernel
theorem dX7_hasAbove_20 : decode cX7_hasAbove 20 = .ok (.iconst 1, 1) := by decide +kernel
theorem dX7_hasAbove_21 : decode cX7_hasAbove 21 = .ok (.ireturn, 1) := by decide +kernel
theorem dX7_hasAbove_22 : decode cX7_hasAbove 22 = .ok (.iinc 2 1, 3) := by decide +kernel
theorem dX7_hasAbove_25 : decode cX7_hasAbove 25 = .ok (.goto (-23), 3) := by decide +kernel
theorem dX7_hasAbove_28 : decode cX7_hasAbove 28 = .ok (.iconst 0, 1) := by decide +kernel
theorem dX7_hasAbove_29 : decode cX7_hasAbove 29 = .ok (.ireturn, 1) := by decide +kernel
theorem dX7_unitsAt_0 : decode cX7_unitsAt 0 = .ok (.aload_n 0, 1) := by decide +kernel
theorem dX7_unitsAt_1 : decode cX7_unitsAt 1 = .ok (.getfield 9, 3) := by decide +kernel
theorem dX7_unitsAt_4 : decode cX7_unitsAt 4 = .ok (.iload_n 1, 1) := by decide +kernel
theorem dX7_unitsAt_5 : decode cX7_unitsAt 5 = .ok (.iaload, 1) := by decide +kernel
theorem dX7_unitsAt_6 : decode cX7_unitsAt 6 = .ok (.iconst 0, 1) := by decide +kernel
theorem dX7_unitsAt_7 : decode cX7_unitsAt 7 = .ok (.invokestatic 26, 3) := by decide +kernel
theorem dX7_unitsAt_10 : decode cX7_unitsAt 10 = .ok (.ireturn, 1) := by decide +kernel
theorem dX8_init_0 : decode cX8_init 0 = .ok (.aload_n 0, 1) := by decide +kernel
theorem dX8_init_1 : decode cX8_init 1 = .ok (.invokespecial 3, 3) := by decide +kernel
theorem dX8_init_4 : decode cX8_init 4 = .ok (.aload_n 0, 1) := by decide +kernel
theorem dX8_init_5 : decode cX8_init 5 = .ok (.new 9, 3) := by decide +kernel
theorem dX8_init_8 : decode cX8_init 8 = .ok (.dup, 1) := by decide +kernel
theorem dX8_init_9 : decode cX8_init 9 = .ok (.invokespecial 11, 3) := by decide +kernel
theorem dX8_init_12 : decode cX8_init 12 = .ok (.putfield 12, 3) := by decide +kernel
theorem dX8_init_15 : decode cX8_init 15 = .ok (.return_, 1) := by decide +kernel
theorem dX8_setTerms_0 : decode cX8_setTerms 0 = .ok (.aload_n 0, 1) := by decide +kernel
theorem dX8_setTerms_1 : decode cX8_setTerms 1 = .ok (.iload_n 1, 1) := by decide +kernel
theorem dX8_setTerms_2 : decode cX8_setTerms 2 = .ok (.putfield 18, 3) := by decide +kernel
theorem dX8_setTerms_5 : decode cX8_setTerms 5 = .ok (.aload_n 0, 1) := by decide +kernel
theorem dX8_setTerms_6 : decode cX8_setTerms 6 = .ok (.iload_n 2, 1) := by decide +kernel
theorem dX8_setTerms_7 : decode cX8_setTerms 7 = .ok (.putfield 22, 3) := by decide +kernel
theorem dX8_setTerms_10 : decode cX8_setTerms 10 = .ok (.aload_n 0, 1) := by decide +kernel
theorem dX8_setTerms_11 : decode cX8_setTerms 11 = .ok (.iload_n 3, 1) := by decide +kernel
theorem dX8_setTerms_12 : decode cX8_setTerms 12 = .ok (.putfield 25, 3) := by decide +kernel
theorem dX8_setTerms_15 : decode cX8_setTerms 15 = .ok (.return_, 1) := by decide +kernel
theorem dX8_setSpan_0 : decode cX8_setSpan 0 = .ok (.aload_n 0, 1) := by decide +kernel
theorem dX8_setSpan_1 : decode cX8_setSpan 1 = .ok (.iload_n 1, 1) := by decide +kernel
theorem dX8_setSpan_2 : decode cX8_setSpan 2 = .ok (.putfield 28, 3) := by decide +kernel
theorem dX8_setSpan_5 : decode cX8_setSpan 5 = .ok (.aload_n 0, 1) := by decide +kernel
theorem dX8_setSpan_6 : decode cX8_setSpan 6 = .ok (.iload_n 2, 1) := by decide +kernel
theorem dX8_setSpan_7 : decode cX8_setSpan 7 = .ok (.putfield 31, 3) := by decide +kernel
theorem dX8_setSpan_10 : decode cX8_setSpan 10 = .ok (.aload_n 0, 1) := by decide +kernel
theorem dX8_setSpan_11 : decode cX8_setSpan 11 = .ok (.iload_n 3, 1) := by decide +kernel
theorem dX8_setSpan_12 : decode cX8_setSpan 12 = .ok (.putfield 34, 3) := by decide +kernel
theorem dX8_setSpan_15 : decode cX8_setSpan 15 = .ok (.aload_n 0, 1) := by decide +kernel
theorem dX8_setSpan_16 : decode cX8_setSpan 16 = .ok (.iconst 0, 1) := by decide +kernel
theorem dX8_setSpan_17 : decode cX8_setSpan 17 = .ok (.putfield 37, 3) := by decide +kernel
theorem dX8_setSpan_20 : decode cX8_setSpan 20 = .ok (.aload_n 0, 1) := by decide +kernel
theorem dX8_setSpan_21 : decode cX8_setSpan 21 = .ok (.getfield 28, 3) := by decide +kernel
theorem dX8_setSpan_24 : decode cX8_setSpan 24 = .ok (.istore 4, 2) := by decide +kernel
theorem dX8_setSpan_26 : decode cX8_setSpan 26 = .ok (.iload 4, 2) := by decide +kernel
theorem dX8_setSpan_28 : decode cX8_setSpan 28 = .ok (.aload_n 0, 1) := by decide +kernel
theorem dX8_setSpan_29 : decode cX8_setSpan 29 = .ok (.getfield 31, 3) := by decide +kernel
theorem dX8_setSpan_32 : decode cX8_setSpan 32 = .ok (.if_icmp .gt 52, 3) := by decide +kernel
theorem dX8_setSpan_35 : decode cX8_setSpan 35 = .ok (.iload 4, 2) := by decide +kernel
theorem dX8_setSpan_37 : decode cX8_setSpan 37 = .ok (.bipush 24, 2) := by decide +kernel
theorem dX8_setSpan_39 : decode cX8_setSpan 39 = .ok (.if_icmp .ge 45, 3) := by decide +kernel
theorem dX8_setSpan_42 : decode cX8_setSpan 42 = .ok (.aload_n 0, 1) := by decide +kernel
theorem dX8_setSpan_43 : decode cX8_setSpan 43 = .ok (.getfield 40, 3) := by decide +kernel
theorem dX8_setSpan_46 : decode cX8_setSpan 46 = .ok (.iconst 4, 1) := by decide +kernel
theorem dX8_setSpan_47 : decode cX8_setSpan 47 = .ok (.if_icmp .ne 18, 3) := by decide +kernel
theorem dX8_setSpan_50 : decode cX8_setSpan 50 = .ok (.aload_n 0, 1) := by decide +kernel
theorem dX8_setSpan_51 : decode cX8_setSpan 51 = .ok (.getfield 34, 3) := by decide +kernel
theorem dX8_setSpan_54 : decode cX8_setSpan 54 = .ok (.iload 4, 2) := by decide +kernel
theorem dX8_setSpan_56 : decode cX8_setSpan 56 = .ok (.bipush 6, 2) := by decide +kernel
theorem dX8_setSpan_58 : decode cX8_setSpan 58 = .ok (.irem, 1) := by decide +kernel
theorem dX8_setSpan_59 : decode cX8_setSpan 59 = .ok (.invokestatic 43, 3) := by decide +kernel
theorem dX8_setSpan_62 : decode cX8_setSpan 62 = .ok (.ifCond .eq 16, 3) := by decide +kernel
theorem dX8_setSpan_65 : decode cX8_setSpan 65 = .ok (.aload_n 0, 1) := by decide +kernel
theorem dX8_setSpan_66 : decode cX8_setSpan 66 = .ok (.dup, 1) := by decide +kernel
theorem dX8_setSpan_67 : decode cX8_setSpan 67 = .ok (.getfield 37, 3) := by decide +kernel
theorem dX8_setSpan_70 : decode cX8_setSpan 70 = .ok (.iconst 1, 1) := by decide +kernel
theorem dX8_setSpan_71 : decode cX8_setSpan 71 = .ok (.iload 4, 2) := by decide +kernel
theorem dX8_setSpan_73 : decode cX8_setSpan 73 = .ok (.ishl, 1) := by decide +kernel
theorem dX8_setSpan_74 : decode cX8_setSpan 74 = .ok (.ior, 1) := by decide +kernel
theorem dX8_setSpan_75 : decode cX8_setSpan 75 = .ok (.putfield 37, 3) := by decide +kernel
theorem dX8_setSpan_78 : decode cX8_setSpan 78 = .ok (.iinc 4 1, 3) := by decide +kernel
theorem dX8_setSpan_81 : decode cX8_setSpan 81 = .ok (.goto (-55), 3) := by decide +kernel
theorem dX8_setSpan_84 : decode cX8_setSpan 84 = .ok (.return_, 1) := by decide +kernel
theorem dX8_isIn_0 : decode cX8_isIn 0 = .ok (.aload_n 0, 1) := by decide +kernel
theorem dX8_isIn_1 : decode cX8_isIn 1 = .ok (.getfield 47, 3) := by decide +kernel
theorem dX8_isIn_4 : decode cX8_isIn 4 = .ok (.ifCond .eq 7, 3) := by decide +kernel
theorem dX8_isIn_7 : decode cX8_isIn 7 = .ok (.iconst 1, 1) := by decide +kernel
theorem dX8_isIn_8 : decode cX8_isIn 8 = .ok (.goto 4, 3) := by decide +kernel
theorem dX8_isIn_11 : decode cX8_isIn 11 = .ok (.iconst 0, 1) := by decide +kernel
theorem dX8_isIn_12 : decode cX8_isIn 12 = .ok (.ireturn, 1) := by decide +kernel
theorem dX8_isOf_0 : decode cX8_isOf 0 = .ok (.aload_n 0, 1) := by decide +kernel
theorem dX8_isOf_1 : decode cX8_isOf 1 = .ok (.getfield 40, 3) := by decide +kernel
theorem dX8_isOf_4 : decode cX8_isOf 4 = .ok (.istore_n 2, 1) := by decide +kernel
theorem dX8_isOf_5 : decode cX8_isOf 5 = .ok (.iconst 0, 1) := by decide +kernel
theorem dX8_isOf_6 : decode cX8_isOf 6 = .ok (.istore_n 3, 1) := by decide +kernel
theorem dX8_isOf_7 : decode cX8_isOf 7 = .ok (.iload_n 3, 1) := by decide +kernel
theorem dX8_isOf_8 : decode cX8_isOf 8 = .ok (.iconst 5, 1) := by decide +kernel
theorem dX8_isOf_9 : decode cX8_isOf 9 = .ok (.if_icmp .ge 31, 3) := by decide +kernel
theorem dX8_isOf_12 : decode cX8_isOf 12 = .ok (.iload_n 2, 1) := by decide +kernel
theorem dX8_isOf_13 : decode cX8_isOf 13 = .ok (.ifCond .lt 27, 3) := by decide +kernel
theorem dX8_isOf_16 : decode cX8_isOf 16 = .ok (.iload_n 2, 1) := by decide +kernel
theorem dX8_isOf_17 : decode cX8_isOf 17 = .ok (.iconst 5, 1) := by decide +kernel
theorem dX8_isOf_18 : decode cX8_isOf 18 = .ok (.if_icmp .ge 22, 3) := by decide +kernel
theorem dX8_isOf_21 : decode cX8_isOf 21 = .ok (.iload_n 2, 1) := by decide +kernel
theorem dX8_isOf_22 : decode cX8_isOf 22 = .ok (.iload_n 1, 1) := by decide +kernel
theorem dX8_isOf_23 : decode cX8_isOf 23 = .ok (.if_icmp .ne 5, 3) := by decide +kernel
theorem dX8_isOf_26 : decode cX8_isOf 26 = .ok (.iconst 1, 1) := by decide +kernel
theorem dX8_isOf_27 : decode cX8_isOf 27 = .ok (.ireturn, 1) := by decide +kernel
theorem dX8_isOf_28 : decode cX8_isOf 28 = .ok (.getstatic 50, 3) := by decide +kernel
theorem dX8_isOf_31 : decode cX8_isOf 31 = .ok (.iload_n 2, 1) := by decide +kernel
theorem dX8_isOf_32 : decode cX8_isOf 32 = .ok (.iaload, 1) := by decide +kernel
theorem dX8_isOf_33 : decode cX8_isOf 33 = .ok (.istore_n 2, 1) := by decide +kernel
theorem dX8_isOf_34 : decode cX8_isOf 34 = .ok (.iinc 3 1, 3) := by decide +kernel
theorem dX8_isOf_37 : decode cX8_isOf 37 = .ok (.goto (-30), 3) := by decide +kernel
theorem dX8_isOf_40 : decode cX8_isOf 40 = .ok (.iconst 0, 1) := by decide +kernel
theorem dX8_isOf_41 : decode cX8_isOf 41 = .ok (.ireturn, 1) := by decide +kernel
theorem dX8_needed_0 : decode cX8_needed 0 = .ok (.aload_n 0, 1) := by decide +kernel
theorem dX8_needed_1 : decode cX8_needed 1 = .ok (.getfield 40, 3) := by decide +kernel
theorem dX8_needed_4 : decode cX8_needed 4 = .ok (.iconst 3, 1) := by decide +kernel
theorem dX8_needed_5 : decode cX8_needed 5 = .ok (.if_icmp .ne 5, 3) := by decide +kernel
theorem dX8_needed_8 : decode cX8_needed 8 = .ok (.iconst 0, 1) := by decide +kernel
theorem dX8_needed_9 : decode cX8_needed 9 = .ok (.ireturn, 1) := by decide +kernel
theorem dX8_needed_10 : decode cX8_needed 10 = .ok (.aload_n 0, 1) := by decide +kernel
theorem dX8_needed_11 : decode cX8_needed 11 = .ok (.getfield 40, 3) := by decide +kernel
theorem dX8_needed_14 : decode cX8_needed 14 = .ok (.iconst 2, 1) := by decide +kernel
theorem dX8_needed_15 : decode cX8_needed 15 = .ok (.if_icmp .ne 10, 3) := by decide +kernel
theorem dX8_needed_18 : decode cX8_needed 18 = .ok (.aload_n 0, 1) := by decide +kernel
theorem dX8_needed_19 : decode cX8_needed 19 = .ok (.getfield 18, 3) := by decide +kernel
theorem dX8_needed_22 : decode cX8_needed 22 = .ok (.goto 7, 3) := by decide +kernel
theorem dX8_needed_25 : decode cX8_needed 25 = .ok (.aload_n 0, 1) := by decide +kernel
theorem dX8_needed_26 : decode cX8_needed 26 = .ok (.getfield 54, 3) := by decide +kernel
theorem dX8_needed_29 : decode cX8_needed 29 = .ok (.ireturn, 1) := by decide +kernel
theorem dX8_takenWay_0 : decode cX8_takenWay 0 = .ok (.aload_n 0, 1) := by decide +kernel
theorem dX8_takenWay_1 : decode cX8_takenWay 1 = .ok (.getfield 47, 3) := by decide +kernel
theorem dX8_takenWay_4 : decode cX8_takenWay 4 = .ok (.invokestatic 57, 3) := by decide +kernel
theorem dX8_takenWay_7 : decode cX8_takenWay 7 = .ok (.iload_n 1, 1) := by decide +kernel
theorem dX8_takenWay_8 : decode cX8_takenWay 8 = .ok (.iand, 1) := by decide +kernel
theorem dX8_takenWay_9 : decode cX8_takenWay 9 = .ok (.ifCond .ne 11, 3) := by decide +kernel
theorem dX8_takenWay_12 : decode cX8_takenWay 12 = .ok (.aload_n 0, 1) := by decide +kernel
theorem dX8_takenWay_13 : decode cX8_takenWay 13 = .ok (.getfield 47, 3) := by decide +kernel
theorem dX8_takenWay_16 : decode cX8_takenWay 16 = .ok (.invokestatic 57, 3) := by decide +kernel
theorem dX8_takenWay_19 : decode cX8_takenWay 19 = .ok (.ireturn, 1) := by decide +kernel
theorem dX8_takenWay_20 : decode cX8_takenWay 20 = .ok (.aload_n 0, 1) := by decide +kernel
theorem dX8_takenWay_21 : decode cX8_takenWay 21 = .ok (.getfield 47, 3) := by decide +kernel
theorem dX8_takenWay_24 : decode cX8_takenWay 24 = .ok (.invokestatic 61, 3) := by decide +kernel
theorem dX8_takenWay_27 : decode cX8_takenWay 27 = .ok (.iload_n 1, 1) := by decide +kernel
theorem dX8_takenWay_28 : decode cX8_takenWay 28 = .ok (.iand, 1) := by decide +kernel
theorem dX8_takenWay_29 : decode cX8_takenWay 29 = .ok (.ifCond .ne 13, 3) := by decide +kernel
theorem dX8_takenWay_32 : decode cX8_takenWay 32 = .ok (.aload_n 0, 1) := by decide +kernel
theorem dX8_takenWay_33 : decode cX8_takenWay 33 = .ok (.getfield 47, 3) := by decide +kernel
theorem dX8_takenWay_36 : decode cX8_takenWay 36 = .ok (.invokestatic 61, 3) := by decide +kernel
theorem dX8_takenWay_39 : decode cX8_takenWay 39 = .ok (.goto 4, 3) := by decide +kernel
theorem dX8_takenWay_42 : decode cX8_takenWay 42 = .ok (.iconst 0, 1) := by decide +kernel
theorem dX8_takenWay_43 : decode cX8_takenWay 43 = .ok (.ireturn, 1) := by decide +kernel
theorem dX8_askedFor_0 : decode cX8_askedFor 0 = .ok (.iload_n 1, 1) := by decide +kernel
theorem dX8_askedFor_1 : decode cX8_askedFor 1 = .ok (.tableswitch 105 0 9 #[55, 60, 65, 70, 75, 80, 85, 90, 95, 100], 55) := by decide +kernel
theorem dX8_askedFor_56 : decode cX8_askedFor 56 = .ok (.aload_n 0, 1) := by decide +kernel
theorem dX8_askedFor_57 : decode cX8_askedFor 57 = .ok (.getfield 40, 3) := by decide +kernel
theorem dX8_askedFor_60 : decode cX8_askedFor 60 = .ok (.ireturn, 1) := by decide +kernel
theorem dX8_askedFor_61 : decode cX8_askedFor 61 = .ok (.aload_n 0, 1) := by decide +kernel
theorem dX8_askedFor_62 : decode cX8_askedFor 62 = .ok (.getfield 64, 3) := by decide +kernel
theorem dX8_askedFor_65 : decode cX8_askedFor 65 = .ok (.ireturn, 1) := by decide +kernel
theorem dX8_askedFor_66 : decode cX8_askedFor 66 = .ok (.aload_n 0, 1) := by decide +kernel
theorem dX8_askedFor_67 : decode cX8_askedFor 67 = .ok (.getfield 67, 3) := by decide +kernel
theorem dX8_askedFor_70 : decode cX8_askedFor 70 = .ok (.ireturn, 1) := by decide +kernel
theorem dX8_askedFor_71 : decode cX8_askedFor 71 = .ok (.aload_n 0, 1) := by decide +kernel
theorem dX8_askedFor_72 : decode cX8_askedFor 72 = .ok (.getfield 54, 3) := by decide +kernel
theorem dX8_askedFor_75 : decode cX8_askedFor 75 = .ok (.ireturn, 1) := by decide +kernel
theorem dX8_askedFor_76 : decode cX8_askedFor 76 = .ok (.aload_n 0, 1) := by decide +kernel
theorem dX8_askedFor_77 : decode cX8_askedFor 77 = .ok (.getfield 70, 3) := by decide +kernel
theorem dX8_askedFor_80 : decode cX8_askedFor 80 = .ok (.ireturn, 1) := by decide +kernel
theorem dX8_askedFor_81 : decode cX8_askedFor 81 = .ok (.aload_n 0, 1) := by decide +kernel
theorem dX8_askedFor_82 : decode cX8_askedFor 82 = .ok (.getfield 18, 3) := by decide +kernel
theorem dX8_askedFor_85 : decode cX8_askedFor 85 = .ok (.ireturn, 1) := by decide +kernel
theorem dX8_askedFor_86 : decode cX8_askedFor 86 = .ok (.aload_n 0, 1) := by decide +kernel
theorem dX8_askedFor_87 : decode cX8_askedFor 87 = .ok (.getfield 22, 3) := by decide +kernel
theorem dX8_askedFor_90 : decode cX8_askedFor 90 = .ok (.ireturn, 1) := by decide +kernel
theorem dX8_askedFor_91 : decode cX8_askedFor 91 = .ok (.aload_n 0, 1) := by decide +kernel
theorem dX8_askedFor_92 : decode cX8_askedFor 92 = .ok (.getfield 25, 3) := by decide +kernel
theorem dX8_askedFor_95 : decode cX8_askedFor 95 = .ok (.ireturn, 1) := by decide +kernel
theorem dX8_askedFor_96 : decode cX8_askedFor 96 = .ok (.aload_n 0, 1) := by decide +kernel
theorem dX8_askedFor_97 : decode cX8_askedFor 97 = .ok (.getfield 28, 3) := by decide +kernel
theorem dX8_askedFor_100 : decode cX8_askedFor 100 = .ok (.ireturn, 1) := by decide +kernel
theorem dX8_askedFor_101 : decode cX8_askedFor 101 = .ok (.aload_n 0, 1) := by decide +kernel
theorem dX8_askedFor_102 : decode cX8_askedFor 102 = .ok (.getfield 31, 3) := by decide +kernel
theorem dX8_askedFor_105 : decode cX8_askedFor 105 = .ok (.ireturn, 1) := by decide +kernel
theorem dX8_askedFor_106 : decode cX8_askedFor 106 = .ok (.aload_n 0, 1) := by decide +kernel
theorem dX8_askedFor_107 : decode cX8_askedFor 107 = .ok (.getfield 34, 3) := by decide +kernel
theorem dX8_askedFor_110 : decode cX8_askedFor 110 = .ok (.ireturn, 1) := by decide +kernel
theorem dX8_becameOf_0 : decode cX8_becameOf 0 = .ok (.iload_n 1, 1) := by decide +kernel
theorem dX8_becameOf_1 : decode cX8_becameOf 1 = .ok (.tableswitch 77 11 16 #[39, 52, 57, 62, 67, 72], 39) := by decide +kernel
theorem dX8_becameOf_40 : decode cX8_becameOf 40 = .ok (.aload_n 0, 1) := by decide +kernel
theorem dX8_becameOf_41 : decode cX8_becameOf 41 = .ok (.invokevirtual 73, 3) := by decide +kernel
theorem dX8_becameOf_44 : decode cX8_becameOf 44 = .ok (.ifCond .eq 7, 3) := by decide +kernel
theorem dX8_becameOf_47 : decode cX8_becameOf 47 = .ok (.iconst 1, 1) := by decide +kernel
theorem dX8_becameOf_48 : decode cX8_becameOf 48 = .ok (.goto 4, 3) := by decide +kernel
theorem dX8_becameOf_51 : decode cX8_becameOf 51 = .ok (.iconst 0, 1) := by decide +kernel
theorem dX8_becameOf_52 : decode cX8_becameOf 52 = .ok (.ireturn, 1) := by decide +kernel
theorem dX8_becameOf_53 : decode cX8_becameOf 53 = .ok (.aload_n 0, 1) := by decide +kernel
theorem dX8_becameOf_54 : decode cX8_becameOf 54 = .ok (.getfield 77, 3) := by decide +kernel
theorem dX8_becameOf_57 : decode cX8_becameOf 57 = .ok (.ireturn, 1) := by decide +kernel
theorem dX8_becameOf_58 : decode cX8_becameOf 58 = .ok (.aload_n 0, 1) := by decide +kernel
theorem dX8_becameOf_59 : decode cX8_becameOf 59 = .ok (.getfield 80, 3) := by decide +kernel
theorem dX8_becameOf_62 : decode cX8_becameOf 62 = .ok (.ireturn, 1) := by decide +kernel
theorem dX8_becameOf_63 : decode cX8_becameOf 63 = .ok (.aload_n 0, 1) := by decide +kernel
theorem dX8_becameOf_64 : decode cX8_becameOf 64 = .ok (.getfield 83, 3) := by decide +kernel
theorem dX8_becameOf_67 : decode cX8_becameOf 67 = .ok (.ireturn, 1) := by decide +kernel
theorem dX8_becameOf_68 : decode cX8_becameOf 68 = .ok (.aload_n 0, 1) := by decide +kernel
theorem dX8_becameOf_69 : decode cX8_becameOf 69 = .ok (.getfield 86, 3) := by decide +kernel
theorem dX8_becameOf_72 : decode cX8_becameOf 72 = .ok (.ireturn, 1) := by decide +kernel
theorem dX8_becameOf_73 : decode cX8_becameOf 73 = .ok (.aload_n 0, 1) := by decide +kernel
theorem dX8_becameOf_74 : decode cX8_becameOf 74 = .ok (.getfield 89, 3) := by decide +kernel
theorem dX8_becameOf_77 : decode cX8_becameOf 77 = .ok (.ireturn, 1) := by decide +kernel
theorem dX8_becameOf_78 : decode cX8_becameOf 78 = .ok (.aload_n 0, 1) := by decide +kernel
theorem dX8_becameOf_79 : decode cX8_becameOf 79 = .ok (.invokevirtual 92, 3) := by decide +kernel
theorem dX8_becameOf_82 : decode cX8_becameOf 82 = .ok (.ireturn, 1) := by decide +kernel
theorem dX9_init_0 : decode cX9_init 0 = .ok (.aload_n 0, 1) := by decide +kernel
theorem dX9_init_1 : decode cX9_init 1 = .ok (.invokespecial 3, 3) := by decide +kernel
theorem dX9_init_4 : decode cX9_init 4 = .ok (.aload_n 0, 1) := by decide +kernel
theorem dX9_init_5 : decode cX9_init 5 = .ok (.bipush 8, 2) := by decide +kernel
theorem dX9_init_7 : decode cX9_init 7 = .ok (.anewarray 9, 3) := by decide +kernel
theorem dX9_init_10 : decode cX9_init 10 = .ok (.putfield 11, 3) := by decide +kernel
theorem dX9_init_13 : decode cX9_init 13 = .ok (.iconst 0, 1) := by decide +kernel
theorem dX9_init_14 : decode cX9_init 14 = .ok (.istore_n 1, 1) := by decide +kernel
theorem dX9_init_15 : decode cX9_init 15 = .ok (.iload_n 1, 1) := by decide +kernel
theorem dX9_init_16 : decode cX9_init 16 = .ok (.bipush 8, 2) := by decide +kernel
theorem dX9_init_18 : decode cX9_init 18 = .ok (.if_icmp .ge 22, 3) := by decide +kernel
theorem dX9_init_21 : decode cX9_init 21 = .ok (.aload_n 0, 1) := by decide +kernel
theorem dX9_init_22 : decode cX9_init 22 = .ok (.getfield 11, 3) := by decide +kernel
theorem dX9_init_25 : decode cX9_init 25 = .ok (.iload_n 1, 1) := by decide +kernel
theorem dX9_init_26 : decode cX9_init 26 = .ok (.new 9, 3) := by decide +kernel
theorem dX9_init_29 : decode cX9_init 29 = .ok (.dup, 1) := by decide +kernel
theorem dX9_init_30 : decode cX9_init 30 = .ok (.invokespecial 17, 3) := by decide +kernel
theorem dX9_init_33 : decode cX9_init 33 = .ok (.aastore, 1) := by decide +kernel
theorem dX9_init_34 : decode cX9_init 34 = .ok (.iinc 1 1, 3) := by decide +kernel
theorem dX9_init_37 : decode cX9_init 37 = .ok (.goto (-22), 3) := by decide +kernel
theorem dX9_init_40 : decode cX9_init 40 = .ok (.return_, 1) := by decide +kernel
theorem dX9_hasSlice_0 : decode cX9_hasSlice 0 = .ok (.iload_n 1, 1) := by decide +kernel
theorem dX9_hasSlice_1 : decode cX9_hasSlice 1 = .ok (.ifCond .lt 15, 3) := by decide +kernel
theorem dX9_hasSlice_4 : decode cX9_hasSlice 4 = .ok (.iload_n 1, 1) := by decide +kernel
theorem dX9_hasSlice_5 : decode cX9_hasSlice 5 = .ok (.aload_n 0, 1) := by decide +kernel
theorem dX9_hasSlice_6 : decode cX9_hasSlice 6 = .ok (.getfield 18, 3) := by decide +kernel
theorem dX9_hasSlice_9 : decode cX9_hasSlice 9 = .ok (.if_icmp .ge 7, 3) := by decide +kernel
theorem dX9_hasSlice_12 : decode cX9_hasSlice 12 = .ok (.iconst 1, 1) := by decide +kernel
theorem dX9_hasSlice_13 : decode cX9_hasSlice 13 = .ok (.goto 4, 3) := by decide +kernel
theorem dX9_hasSlice_16 : decode cX9_hasSlice 16 = .ok (.iconst 0, 1) := by decide +kernel
theorem dX9_hasSlice_17 : decode cX9_hasSlice 17 = .ok (.ireturn, 1) := by decide +kernel
theorem dX9_haveAll_0 : decode cX9_haveAll 0 = .ok (.iload_n 1, 1) := by decide +kernel
theorem dX9_haveAll_1 : decode cX9_haveAll 1 = .ok (.ifCond .lt 17, 3) := by decide +kernel
theorem dX9_haveAll_4 : decode cX9_haveAll 4 = .ok (.iload_n 1, 1) := by decide +kernel
theorem dX9_haveAll_5 : decode cX9_haveAll 5 = .ok (.iconst 1, 1) := by decide +kernel
theorem dX9_haveAll_6 : decode cX9_haveAll 6 = .ok (.aload_n 0, 1) := by decide +kernel
theorem dX9_haveAll_7 : decode cX9_haveAll 7 = .ok (.getfield 18, 3) := by decide +kernel
theorem dX9_haveAll_10 : decode cX9_haveAll 10 = .ok (.ishl, 1) := by decide +kernel
theorem dX9_haveAll_11 : decode cX9_haveAll 11 = .ok (.if_icmp .ge 7, 3) := by decide +kernel
theorem dX9_haveAll_14 : decode cX9_haveAll 14 = .ok (.iconst 1, 1) := by decide +kernel
theorem dX9_haveAll_15 : decode cX9_haveAll 15 = .ok (.goto 4, 3) := by decide +kernel
theorem dX9_haveAll_18 : decode cX9_haveAll 18 = .ok (.iconst 0, 1) := by decide +kernel
theorem dX9_haveAll_19 : decode cX9_haveAll 19 = .ok (.ireturn, 1) := by decide +kernel
theorem dX9_at_0 : decode cX9_at 0 = .ok (.aload_n 0, 1) := by decide +kernel
theorem dX9_at_1 : decode cX9_at 1 = .ok (.getfield 11, 3) := by decide +kernel
theorem dX9_at_4 : decode cX9_at 4 = .ok (.iload_n 1, 1) := by decide +kernel
theorem dX9_at_5 : decode cX9_at 5 = .ok (.aaload, 1) := by decide +kernel
theorem dX9_at_6 : decode cX9_at 6 = .ok (.areturn, 1) := by decide +kernel
theorem dX9_add_0 : decode cX9_add 0 = .ok (.aload_n 0, 1) := by decide +kernel
theorem dX9_add_1 : decode cX9_add 1 = .ok (.getfield 11, 3) := by decide +kernel
theorem dX9_add_4 : decode cX9_add 4 = .ok (.aload_n 0, 1) := by decide +kernel
theorem dX9_add_5 : decode cX9_add 5 = .ok (.getfield 18, 3) := by decide +kernel
theorem dX9_add_8 : decode cX9_add 8 = .ok (.aaload, 1) := by decide +kernel
theorem dX9_add_9 : decode cX9_add 9 = .ok (.astore 6, 2) := by decide +kernel
theorem dX9_add_11 : decode cX9_add 11 = .ok (.aload 6, 2) := by decide +kernel
theorem dX9_add_13 : decode cX9_add 13 = .ok (.iload_n 1, 1) := by decide +kernel
theorem dX9_add_14 : decode cX9_add 14 = .ok (.putfield 22, 3) := by decide +kernel
theorem dX9_add_17 : decode cX9_add 17 = .ok (.aload 6, 2) := by decide +kernel
theorem dX9_add_19 : decode cX9_add 19 = .ok (.iload_n 2, 1) := by decide +kernel
theorem dX9_add_20 : decode cX9_add 20 = .ok (.putfield 25, 3) := by decide +kernel
theorem dX9_add_23 : decode cX9_add 23 = .ok (.aload 6, 2) := by decide +kernel
theorem dX9_add_25 : decode cX9_add 25 = .ok (.iload_n 3, 1) := by decide +kernel
theorem dX9_add_26 : decode cX9_add 26 = .ok (.putfield 28, 3) := by decide +kernel
theorem dX9_add_29 : decode cX9_add 29 = .ok (.aload 6, 2) := by decide +kernel
theorem dX9_add_31 : decode cX9_add 31 = .ok (.iload 4, 2) := by decide +kernel
theorem dX9_add_33 : decode cX9_add 33 = .ok (.putfield 31, 3) := by decide +kernel
theorem dX9_add_36 : decode cX9_add 36 = .ok (.aload 6, 2) := by decide +kernel
theorem dX9_add_38 : decode cX9_add 38 = .ok (.iload 5, 2) := by decide +kernel
theorem dX9_add_40 : decode cX9_add 40 = .ok (.putfield 34, 3) := by decide +kernel
theorem dX9_add_43 : decode cX9_add 43 = .ok (.aload 6, 2) := by decide +kernel
theorem dX9_add_45 : decode cX9_add 45 = .ok (.iconst 0, 1) := by decide +kernel
theorem dX9_add_46 : decode cX9_add 46 = .ok (.bipush 23, 2) := by decide +kernel
theorem dX9_add_48 : decode cX9_add 48 = .ok (.iconst 0, 1) := by decide +kernel
theorem dX9_add_49 : decode cX9_add 49 = .ok (.invokevirtual 37, 3) := by decide +kernel
theorem dX9_add_52 : decode cX9_add 52 = .ok (.aload_n 0, 1) := by decide +kernel
theorem dX9_add_53 : decode cX9_add 53 = .ok (.dup, 1) := by decide +kernel
theorem dX9_add_54 : decode cX9_add 54 = .ok (.getfield 18, 3) := by decide +kernel
theorem dX9_add_57 : decode cX9_add 57 = .ok (.iconst 1, 1) := by decide +kernel
theorem dX9_add_58 : decode cX9_add 58 = .ok (.iadd, 1) := by decide +kernel
theorem dX9_add_59 : decode cX9_add 59 = .ok (.putfield 18, 3) := by decide +kernel
theorem dX9_add_62 : decode cX9_add 62 = .ok (.aload_n 0, 1) := by decide +kernel
theorem dX9_add_63 : decode cX9_add 63 = .ok (.getfield 18, 3) := by decide +kernel
theorem dX9_add_66 : decode cX9_add 66 = .ok (.iconst 1, 1) := by decide +kernel
theorem dX9_add_67 : decode cX9_add 67 = .ok (.isub, 1) := by decide +kernel
theorem dX9_add_68 : decode cX9_add 68 = .ok (.ireturn, 1) := by decide +kernel
theorem dX9_placesOf_0 : decode cX9_placesOf 0 = .ok (.aload_n 0, 1) := by decide +kernel
theorem dX9_placesOf_1 : decode cX9_placesOf 1 = .ok (.getfield 11, 3) := by decide +kernel
theorem dX9_placesOf_4 : decode cX9_placesOf 4 = .ok (.iload_n 2, 1) := by decide +kernel
theorem dX9_placesOf_5 : decode cX9_placesOf 5 = .ok (.aaload, 1) := by decide +kernel
theorem dX9_placesOf_6 : decode cX9_placesOf 6 = .ok (.astore_n 3, 1) := by decide +kernel
theorem dX9_placesOf_7 : decode cX9_placesOf 7 = .ok (.aload_n 3, 1) := by decide +kernel
theorem dX9_placesOf_8 : decode cX9_placesOf 8 = .ok (.getfield 41, 3) := by decide +kernel
theorem dX9_placesOf_11 : decode cX9_placesOf 11 = .ok (.aload_n 1, 1) := by decide +kernel
theorem dX9_placesOf_12 : decode cX9_placesOf 12 = .ok (.aload_n 3, 1) := by decide +kernel
theorem dX9_placesOf_13 : decode cX9_placesOf 13 = .ok (.invokevirtual 45, 3) := by decide +kernel
theorem dX9_placesOf_16 : decode cX9_placesOf 16 = .ok (.aload_n 3, 1) := by decide +kernel
theorem dX9_placesOf_17 : decode cX9_placesOf 17 = .ok (.getfield 41, 3) := by decide +kernel
theorem dX9_placesOf_20 : decode cX9_placesOf 20 = .ok (.areturn, 1) := by decide +kernel
theorem dX9_countIn_0 : decode cX9_countIn 0 = .ok (.iconst 0, 1) := by decide +kernel
theorem dX9_countIn_1 : decode cX9_countIn 1 = .ok (.istore_n 1, 1) := by decide +kernel
theorem dX9_countIn_2 : decode cX9_countIn 2 = .ok (.iconst 0, 1) := by decide +kernel
theorem dX9_countIn_3 : decode cX9_countIn 3 = .ok (.istore_n 2, 1) := by decide +kernel
theorem dX9_countIn_4 : decode cX9_countIn 4 = .ok (.iload_n 2, 1) := by decide +kernel
theorem dX9_countIn_5 : decode cX9_countIn 5 = .ok (.aload_n 0, 1) := by decide +kernel
theorem dX9_countIn_6 : decode cX9_countIn 6 = .ok (.getfield 18, 3) := by decide +kernel
theorem dX9_countIn_9 : decode cX9_countIn 9 = .ok (.if_icmp .ge 29, 3) := by decide +kernel
theorem dX9_countIn_12 : decode cX9_countIn 12 = .ok (.iload_n 1, 1) := by decide +kernel
theorem dX9_countIn_13 : decode cX9_countIn 13 = .ok (.aload_n 0, 1) := by decide +kernel
theorem dX9_countIn_14 : decode cX9_countIn 14 = .ok (.getfield 11, 3) := by decide +kernel
theorem dX9_countIn_17 : decode cX9_countIn 17 = .ok (.iload_n 2, 1) := by decide +kernel
theorem dX9_countIn_18 : decode cX9_countIn 18 = .ok (.aaload, 1) := by decide +kernel
theorem dX9_countIn_19 : decode cX9_countIn 19 = .ok (.invokevirtual 51, 3) := by decide +kernel
theorem dX9_countIn_22 : decode cX9_countIn 22 = .ok (.ifCond .eq 7, 3) := by decide +kernel
theorem dX9_countIn_25 : decode cX9_countIn 25 = .ok (.iconst 1, 1) := by decide +kernel
theorem dX9_countIn_26 : decode cX9_countIn 26 = .ok (.goto 4, 3) := by decide +kernel
theorem dX9_countIn_29 : decode cX9_countIn 29 = .ok (.iconst 0, 1) := by decide +kernel
theorem dX9_countIn_30 : decode cX9_countIn 30 = .ok (.iadd, 1) := by decide +kernel
theorem dX9_countIn_31 : decode cX9_countIn 31 = .ok (.istore_n 1, 1) := by decide +kernel
theorem dX9_countIn_32 : decode cX9_countIn 32 = .ok (.iinc 2 1, 3) := by decide +kernel
theorem dX9_countIn_35 : decode cX9_countIn 35 = .ok (.goto (-31), 3) := by decide +kernel
theorem dX9_countIn_38 : decode cX9_countIn 38 = .ok (.iload_n 1, 1) := by decide +kernel
theorem dX9_countIn_39 : decode cX9_countIn 39 = .ok (.ireturn, 1) := by decide +kernel
theorem dX9_wouldOverflow_0 : decode cX9_wouldOverflow 0 = .ok (.iconst 0, 1) := by decide +kernel
theorem dX9_wouldOverflow_1 : decode cX9_wouldOverflow 1 = .ok (.istore_n 2, 1) := by decide +kernel
