theorem dX9_wouldOverflow_2 : decode cX9_wouldOverflow 2 = .ok (.iload_n 2, 1) := by decide +kernel
theorem dX9_wouldOverflow_3 : decode cX9_wouldOverflow 3 = .ok (.aload_n 1, 1) := by decide +kernel
theorem dX9_wouldOverflow_4 : decode cX9_wouldOverflow 4 = .ok (.getfield 55, 3) := by decide +kernel
theorem dX9_wouldOverflow_7 : decode cX9_wouldOverflow 7 = .ok (.if_icmp .ge 40, 3) := by decide +kernel
theorem dX9_wouldOverflow_10 : decode cX9_wouldOverflow 10 = .ok (.iload_n 2, 1) := by decide +kernel
theorem dX9_wouldOverflow_11 : decode cX9_wouldOverflow 11 = .ok (.aload_n 0, 1) := by decide +kernel
theorem dX9_wouldOverflow_12 : decode cX9_wouldOverflow 12 = .ok (.getfield 18, 3) := by decide +kernel
theorem dX9_wouldOverflow_15 : decode cX9_wouldOverflow 15 = .ok (.if_icmp .ge 32, 3) := by decide +kernel
theorem dX9_wouldOverflow_18 : decode cX9_wouldOverflow 18 = .ok (.aload_n 0, 1) := by decide +kernel
theorem dX9_wouldOverflow_19 : decode cX9_wouldOverflow 19 = .ok (.getfield 11, 3) := by decide +kernel
theorem dX9_wouldOverflow_22 : decode cX9_wouldOverflow 22 = .ok (.iload_n 2, 1) := by decide +kernel
theorem dX9_wouldOverflow_23 : decode cX9_wouldOverflow 23 = .ok (.aaload, 1) := by decide +kernel
theorem dX9_wouldOverflow_24 : decode cX9_wouldOverflow 24 = .ok (.getfield 58, 3) := by decide +kernel
theorem dX9_wouldOverflow_27 : decode cX9_wouldOverflow 27 = .ok (.aload_n 1, 1) := by decide +kernel
theorem dX9_wouldOverflow_28 : decode cX9_wouldOverflow 28 = .ok (.iload_n 2, 1) := by decide +kernel
theorem dX9_wouldOverflow_29 : decode cX9_wouldOverflow 29 = .ok (.invokevirtual 61, 3) := by decide +kernel
theorem dX9_wouldOverflow_32 : decode cX9_wouldOverflow 32 = .ok (.iadd, 1) := by decide +kernel
theorem dX9_wouldOverflow_33 : decode cX9_wouldOverflow 33 = .ok (.sipush 1000, 3) := by decide +kernel
theorem dX9_wouldOverflow_36 : decode cX9_wouldOverflow 36 = .ok (.if_icmp .le 5, 3) := by decide +kernel
theorem dX9_wouldOverflow_39 : decode cX9_wouldOverflow 39 = .ok (.iconst 1, 1) := by decide +kernel
theorem dX9_wouldOverflow_40 : decode cX9_wouldOverflow 40 = .ok (.ireturn, 1) := by decide +kernel
theorem dX9_wouldOverflow_41 : decode cX9_wouldOverflow 41 = .ok (.iinc 2 1, 3) := by decide +kernel
theorem dX9_wouldOverflow_44 : decode cX9_wouldOverflow 44 = .ok (.goto (-42), 3) := by decide +kernel
theorem dX9_wouldOverflow_47 : decode cX9_wouldOverflow 47 = .ok (.iconst 0, 1) := by decide +kernel
theorem dX9_wouldOverflow_48 : decode cX9_wouldOverflow 48 = .ok (.ireturn, 1) := by decide +kernel
theorem dX9_offerAll_0 : decode cX9_offerAll 0 = .ok (.iconst 0, 1) := by decide +kernel
theorem dX9_offerAll_1 : decode cX9_offerAll 1 = .ok (.istore_n 2, 1) := by decide +kernel
theorem dX9_offerAll_2 : decode cX9_offerAll 2 = .ok (.iconst 0, 1) := by decide +kernel
theorem dX9_offerAll_3 : decode cX9_offerAll 3 = .ok (.istore_n 3, 1) := by decide +kernel
theorem dX9_offerAll_4 : decode cX9_offerAll 4 = .ok (.iload_n 3, 1) := by decide +kernel
theorem dX9_offerAll_5 : decode cX9_offerAll 5 = .ok (.aload_n 1, 1) := by decide +kernel
theorem dX9_offerAll_6 : decode cX9_offerAll 6 = .ok (.getfield 55, 3) := by decide +kernel
theorem dX9_offerAll_9 : decode cX9_offerAll 9 = .ok (.if_icmp .ge 44, 3) := by decide +kernel
theorem dX9_offerAll_12 : decode cX9_offerAll 12 = .ok (.iload_n 3, 1) := by decide +kernel
theorem dX9_offerAll_13 : decode cX9_offerAll 13 = .ok (.aload_n 0, 1) := by decide +kernel
theorem dX9_offerAll_14 : decode cX9_offerAll 14 = .ok (.getfield 18, 3) := by decide +kernel
theorem dX9_offerAll_17 : decode cX9_offerAll 17 = .ok (.if_icmp .ge 36, 3) := by decide +kernel
theorem dX9_offerAll_20 : decode cX9_offerAll 20 = .ok (.aload_n 0, 1) := by decide +kernel
theorem dX9_offerAll_21 : decode cX9_offerAll 21 = .ok (.getfield 11, 3) := by decide +kernel
theorem dX9_offerAll_24 : decode cX9_offerAll 24 = .ok (.iload_n 3, 1) := by decide +kernel
theorem dX9_offerAll_25 : decode cX9_offerAll 25 = .ok (.aaload, 1) := by decide +kernel
theorem dX9_offerAll_26 : decode cX9_offerAll 26 = .ok (.dup, 1) := by decide +kernel
theorem dX9_offerAll_27 : decode cX9_offerAll 27 = .ok (.getfield 58, 3) := by decide +kernel
theorem dX9_offerAll_30 : decode cX9_offerAll 30 = .ok (.aload_n 1, 1) := by decide +kernel
theorem dX9_offerAll_31 : decode cX9_offerAll 31 = .ok (.iload_n 3, 1) := by decide +kernel
theorem dX9_offerAll_32 : decode cX9_offerAll 32 = .ok (.invokevirtual 61, 3) := by decide +kernel
theorem dX9_offerAll_35 : decode cX9_offerAll 35 = .ok (.iadd, 1) := by decide +kernel
theorem dX9_offerAll_36 : decode cX9_offerAll 36 = .ok (.putfield 58, 3) := by decide +kernel
theorem dX9_offerAll_39 : decode cX9_offerAll 39 = .ok (.iload_n 2, 1) := by decide +kernel
theorem dX9_offerAll_40 : decode cX9_offerAll 40 = .ok (.aload_n 1, 1) := by decide +kernel
theorem dX9_offerAll_41 : decode cX9_offerAll 41 = .ok (.iload_n 3, 1) := by decide +kernel
theorem dX9_offerAll_42 : decode cX9_offerAll 42 = .ok (.invokevirtual 61, 3) := by decide +kernel
theorem dX9_offerAll_45 : decode cX9_offerAll 45 = .ok (.iadd, 1) := by decide +kernel
theorem dX9_offerAll_46 : decode cX9_offerAll 46 = .ok (.istore_n 2, 1) := by decide +kernel
theorem dX9_offerAll_47 : decode cX9_offerAll 47 = .ok (.iinc 3 1, 3) := by decide +kernel
theorem dX9_offerAll_50 : decode cX9_offerAll 50 = .ok (.goto (-46), 3) := by decide +kernel
theorem dX9_offerAll_53 : decode cX9_offerAll 53 = .ok (.iload_n 2, 1) := by decide +kernel
theorem dX9_offerAll_54 : decode cX9_offerAll 54 = .ok (.ireturn, 1) := by decide +kernel
theorem dX10_init_0 : decode cX10_init 0 = .ok (.aload_n 0, 1) := by decide +kernel
theorem dX10_init_1 : decode cX10_init 1 = .ok (.invokespecial 5, 3) := by decide +kernel
theorem dX10_init_4 : decode cX10_init 4 = .ok (.aload_n 0, 1) := by decide +kernel
theorem dX10_init_5 : decode cX10_init 5 = .ok (.bipush 27, 2) := by decide +kernel
theorem dX10_init_7 : decode cX10_init 7 = .ok (.newarray .int, 2) := by decide +kernel
theorem dX10_init_9 : decode cX10_init 9 = .ok (.putfield 11, 3) := by decide +kernel
theorem dX10_init_12 : decode cX10_init 12 = .ok (.aload_n 0, 1) := by decide +kernel
theorem dX10_init_13 : decode cX10_init 13 = .ok (.iconst (-1), 1) := by decide +kernel
theorem dX10_init_14 : decode cX10_init 14 = .ok (.putfield 15, 3) := by decide +kernel
theorem dX10_init_17 : decode cX10_init 17 = .ok (.aload_n 0, 1) := by decide +kernel
theorem dX10_init_18 : decode cX10_init 18 = .ok (.iconst (-1), 1) := by decide +kernel
theorem dX10_init_19 : decode cX10_init 19 = .ok (.putfield 19, 3) := by decide +kernel
theorem dX10_init_22 : decode cX10_init 22 = .ok (.aload_n 0, 1) := by decide +kernel
theorem dX10_init_23 : decode cX10_init 23 = .ok (.iconst (-1), 1) := by decide +kernel
theorem dX10_init_24 : decode cX10_init 24 = .ok (.putfield 22, 3) := by decide +kernel
theorem dX10_init_27 : decode cX10_init 27 = .ok (.return_, 1) := by decide +kernel
theorem dX10_lateOf_0 : decode cX10_lateOf 0 = .ok (.iload_n 0, 1) := by decide +kernel
theorem dX10_lateOf_1 : decode cX10_lateOf 1 = .ok (.bipush 23, 2) := by decide +kernel
theorem dX10_lateOf_3 : decode cX10_lateOf 3 = .ok (.ishr, 1) := by decide +kernel
theorem dX10_lateOf_4 : decode cX10_lateOf 4 = .ok (.ireturn, 1) := by decide +kernel
theorem dX10_countOf_0 : decode cX10_countOf 0 = .ok (.iload_n 0, 1) := by decide +kernel
theorem dX10_countOf_1 : decode cX10_countOf 1 = .ok (.bipush 20, 2) := by decide +kernel
theorem dX10_countOf_3 : decode cX10_countOf 3 = .ok (.ishr, 1) := by decide +kernel
theorem dX10_countOf_4 : decode cX10_countOf 4 = .ok (.bipush 7, 2) := by decide +kernel
theorem dX10_countOf_6 : decode cX10_countOf 6 = .ok (.iand, 1) := by decide +kernel
theorem dX10_countOf_7 : decode cX10_countOf 7 = .ok (.ireturn, 1) := by decide +kernel
theorem dX10_lineAt_0 : decode cX10_lineAt 0 = .ok (.iload_n 0, 1) := by decide +kernel
theorem dX10_lineAt_1 : decode cX10_lineAt 1 = .ok (.invokestatic 25, 3) := by decide +kernel
theorem dX10_lineAt_4 : decode cX10_lineAt 4 = .ok (.iconst 1, 1) := by decide +kernel
theorem dX10_lineAt_5 : decode cX10_lineAt 5 = .ok (.isub, 1) := by decide +kernel
theorem dX10_lineAt_6 : decode cX10_lineAt 6 = .ok (.iload_n 1, 1) := by decide +kernel
theorem dX10_lineAt_7 : decode cX10_lineAt 7 = .ok (.isub, 1) := by decide +kernel
theorem dX10_lineAt_8 : decode cX10_lineAt 8 = .ok (.istore_n 2, 1) := by decide +kernel
theorem dX10_lineAt_9 : decode cX10_lineAt 9 = .ok (.iload_n 2, 1) := by decide +kernel
theorem dX10_lineAt_10 : decode cX10_lineAt 10 = .ok (.ifCond .ge 7, 3) := by decide +kernel
theorem dX10_lineAt_13 : decode cX10_lineAt 13 = .ok (.iconst (-1), 1) := by decide +kernel
theorem dX10_lineAt_14 : decode cX10_lineAt 14 = .ok (.goto 11, 3) := by decide +kernel
theorem dX10_lineAt_17 : decode cX10_lineAt 17 = .ok (.iload_n 0, 1) := by decide +kernel
theorem dX10_lineAt_18 : decode cX10_lineAt 18 = .ok (.iconst 4, 1) := by decide +kernel
theorem dX10_lineAt_19 : decode cX10_lineAt 19 = .ok (.iload_n 2, 1) := by decide +kernel
theorem dX10_lineAt_20 : decode cX10_lineAt 20 = .ok (.imul, 1) := by decide +kernel
theorem dX10_lineAt_21 : decode cX10_lineAt 21 = .ok (.ishr, 1) := by decide +kernel
theorem dX10_lineAt_22 : decode cX10_lineAt 22 = .ok (.bipush 15, 2) := by decide +kernel
theorem dX10_lineAt_24 : decode cX10_lineAt 24 = .ok (.iand, 1) := by decide +kernel
theorem dX10_lineAt_25 : decode cX10_lineAt 25 = .ok (.ireturn, 1) := by decide +kernel
theorem dX10_linesIn_0 : decode cX10_linesIn 0 = .ok (.iconst 0, 1) := by decide +kernel
theorem dX10_linesIn_1 : decode cX10_linesIn 1 = .ok (.istore_n 1, 1) := by decide +kernel
theorem dX10_linesIn_2 : decode cX10_linesIn 2 = .ok (.iload_n 0, 1) := by decide +kernel
theorem dX10_linesIn_3 : decode cX10_linesIn 3 = .ok (.istore_n 2, 1) := by decide +kernel
theorem dX10_linesIn_4 : decode cX10_linesIn 4 = .ok (.iload_n 0, 1) := by decide +kernel
theorem dX10_linesIn_5 : decode cX10_linesIn 5 = .ok (.invokestatic 25, 3) := by decide +kernel
theorem dX10_linesIn_8 : decode cX10_linesIn 8 = .ok (.istore_n 3, 1) := by decide +kernel
theorem dX10_linesIn_9 : decode cX10_linesIn 9 = .ok (.iload_n 3, 1) := by decide +kernel
theorem dX10_linesIn_10 : decode cX10_linesIn 10 = .ok (.ifCond .le 22, 3) := by decide +kernel
theorem dX10_linesIn_13 : decode cX10_linesIn 13 = .ok (.iload_n 1, 1) := by decide +kernel
theorem dX10_linesIn_14 : decode cX10_linesIn 14 = .ok (.iconst 1, 1) := by decide +kernel
theorem dX10_linesIn_15 : decode cX10_linesIn 15 = .ok (.iload_n 2, 1) := by decide +kernel
theorem dX10_linesIn_16 : decode cX10_linesIn 16 = .ok (.bipush 15, 2) := by decide +kernel
theorem dX10_linesIn_18 : decode cX10_linesIn 18 = .ok (.iand, 1) := by decide +kernel
theorem dX10_linesIn_19 : decode cX10_linesIn 19 = .ok (.ishl, 1) := by decide +kernel
theorem dX10_linesIn_20 : decode cX10_linesIn 20 = .ok (.ior, 1) := by decide +kernel
theorem dX10_linesIn_21 : decode cX10_linesIn 21 = .ok (.istore_n 1, 1) := by decide +kernel
theorem dX10_linesIn_22 : decode cX10_linesIn 22 = .ok (.iload_n 2, 1) := by decide +kernel
theorem dX10_linesIn_23 : decode cX10_linesIn 23 = .ok (.iconst 4, 1) := by decide +kernel
theorem dX10_linesIn_24 : decode cX10_linesIn 24 = .ok (.ishr, 1) := by decide +kernel
theorem dX10_linesIn_25 : decode cX10_linesIn 25 = .ok (.istore_n 2, 1) := by decide +kernel
theorem dX10_linesIn_26 : decode cX10_linesIn 26 = .ok (.iinc 3 (-1), 3) := by decide +kernel
theorem dX10_linesIn_29 : decode cX10_linesIn 29 = .ok (.goto (-20), 3) := by decide +kernel
theorem dX10_linesIn_32 : decode cX10_linesIn 32 = .ok (.iload_n 1, 1) := by decide +kernel
theorem dX10_linesIn_33 : decode cX10_linesIn 33 = .ok (.ireturn, 1) := by decide +kernel
theorem dX10_longer_0 : decode cX10_longer 0 = .ok (.iload_n 0, 1) := by decide +kernel
theorem dX10_longer_1 : decode cX10_longer 1 = .ok (.ldc 29, 2) := by decide +kernel
theorem dX10_longer_3 : decode cX10_longer 3 = .ok (.iand, 1) := by decide +kernel
theorem dX10_longer_4 : decode cX10_longer 4 = .ok (.istore_n 3, 1) := by decide +kernel
theorem dX10_longer_5 : decode cX10_longer 5 = .ok (.iload_n 0, 1) := by decide +kernel
theorem dX10_longer_6 : decode cX10_longer 6 = .ok (.iload_n 3, 1) := by decide +kernel
theorem dX10_longer_7 : decode cX10_longer 7 = .ok (.isub, 1) := by decide +kernel
theorem dX10_longer_8 : decode cX10_longer 8 = .ok (.iload_n 2, 1) := by decide +kernel
theorem dX10_longer_9 : decode cX10_longer 9 = .ok (.bipush 23, 2) := by decide +kernel
theorem dX10_longer_11 : decode cX10_longer 11 = .ok (.ishl, 1) := by decide +kernel
theorem dX10_longer_12 : decode cX10_longer 12 = .ok (.iadd, 1) := by decide +kernel
theorem dX10_longer_13 : decode cX10_longer 13 = .ok (.ldc 30, 2) := by decide +kernel
theorem dX10_longer_15 : decode cX10_longer 15 = .ok (.iadd, 1) := by decide +kernel
theorem dX10_longer_16 : decode cX10_longer 16 = .ok (.istore 4, 2) := by decide +kernel
theorem dX10_longer_18 : decode cX10_longer 18 = .ok (.iload 4, 2) := by decide +kernel
theorem dX10_longer_20 : decode cX10_longer 20 = .ok (.iload_n 3, 1) := by decide +kernel
theorem dX10_longer_21 : decode cX10_longer 21 = .ok (.iconst 4, 1) := by decide +kernel
theorem dX10_longer_22 : decode cX10_longer 22 = .ok (.ishl, 1) := by decide +kernel
theorem dX10_longer_23 : decode cX10_longer 23 = .ok (.ior, 1) := by decide +kernel
theorem dX10_longer_24 : decode cX10_longer 24 = .ok (.iload_n 1, 1) := by decide +kernel
theorem dX10_longer_25 : decode cX10_longer 25 = .ok (.ior, 1) := by decide +kernel
theorem dX10_longer_26 : decode cX10_longer 26 = .ok (.ireturn, 1) := by decide +kernel
theorem dX10_keyAt_0 : decode cX10_keyAt 0 = .ok (.aload_n 0, 1) := by decide +kernel
theorem dX10_keyAt_1 : decode cX10_keyAt 1 = .ok (.getfield 11, 3) := by decide +kernel
theorem dX10_keyAt_4 : decode cX10_keyAt 4 = .ok (.iload_n 1, 1) := by decide +kernel
theorem dX10_keyAt_5 : decode cX10_keyAt 5 = .ok (.iaload, 1) := by decide +kernel
theorem dX10_keyAt_6 : decode cX10_keyAt 6 = .ok (.ireturn, 1) := by decide +kernel
theorem dX10_find_0 : decode cX10_find 0 = .ok (.iload_n 2, 1) := by decide +kernel
theorem dX10_find_1 : decode cX10_find 1 = .ok (.aload_n 0, 1) := by decide +kernel
theorem dX10_find_2 : decode cX10_find 2 = .ok (.getfield 15, 3) := by decide +kernel
theorem dX10_find_5 : decode cX10_find 5 = .ok (.if_icmp .ne 23, 3) := by decide +kernel
theorem dX10_find_8 : decode cX10_find 8 = .ok (.iload_n 3, 1) := by decide +kernel
theorem dX10_find_9 : decode cX10_find 9 = .ok (.aload_n 0, 1) := by decide +kernel
theorem dX10_find_10 : decode cX10_find 10 = .ok (.getfield 19, 3) := by decide +kernel
theorem dX10_find_13 : decode cX10_find 13 = .ok (.if_icmp .ne 15, 3) := by decide +kernel
theorem dX10_find_16 : decode cX10_find 16 = .ok (.aload_n 1, 1) := by decide +kernel
theorem dX10_find_17 : decode cX10_find 17 = .ok (.getfield 31, 3) := by decide +kernel
theorem dX10_find_20 : decode cX10_find 20 = .ok (.aload_n 0, 1) := by decide +kernel
theorem dX10_find_21 : decode cX10_find 21 = .ok (.getfield 22, 3) := by decide +kernel
theorem dX10_find_24 : decode cX10_find 24 = .ok (.if_icmp .ne 4, 3) := by decide +kernel
theorem dX10_find_27 : decode cX10_find 27 = .ok (.return_, 1) := by decide +kernel
theorem dX10_find_28 : decode cX10_find 28 = .ok (.aload_n 0, 1) := by decide +kernel
theorem dX10_find_29 : decode cX10_find 29 = .ok (.iload_n 2, 1) := by decide +kernel
theorem dX10_find_30 : decode cX10_find 30 = .ok (.putfield 15, 3) := by decide +kernel
theorem dX10_find_33 : decode cX10_find 33 = .ok (.aload_n 0, 1) := by decide +kernel
theorem dX10_find_34 : decode cX10_find 34 = .ok (.iload_n 3, 1) := by decide +kernel
theorem dX10_find_35 : decode cX10_find 35 = .ok (.putfield 19, 3) := by decide +kernel
theorem dX10_find_38 : decode cX10_find 38 = .ok (.aload_n 0, 1) := by decide +kernel
theorem dX10_find_39 : decode cX10_find 39 = .ok (.aload_n 1, 1) := by decide +kernel
theorem dX10_find_40 : decode cX10_find 40 = .ok (.getfield 31, 3) := by decide +kernel
theorem dX10_find_43 : decode cX10_find 43 = .ok (.putfield 22, 3) := by decide +kernel
theorem dX10_find_46 : decode cX10_find 46 = .ok (.aload_n 0, 1) := by decide +kernel
theorem dX10_find_47 : decode cX10_find 47 = .ok (.iconst 0, 1) := by decide +kernel
theorem dX10_find_48 : decode cX10_find 48 = .ok (.putfield 36, 3) := by decide +kernel
theorem dX10_find_51 : decode cX10_find 51 = .ok (.aload_n 0, 1) := by decide +kernel
theorem dX10_find_52 : decode cX10_find 52 = .ok (.aload_n 1, 1) := by decide +kernel
theorem dX10_find_53 : decode cX10_find 53 = .ok (.iload_n 2, 1) := by decide +kernel
theorem dX10_find_54 : decode cX10_find 54 = .ok (.iconst 1, 1) := by decide +kernel
theorem dX10_find_55 : decode cX10_find 55 = .ok (.iload_n 2, 1) := by decide +kernel
theorem dX10_find_56 : decode cX10_find 56 = .ok (.ishl, 1) := by decide +kernel
theorem dX10_find_57 : decode cX10_find 57 = .ok (.iconst 0, 1) := by decide +kernel
theorem dX10_find_58 : decode cX10_find 58 = .ok (.iconst 0, 1) := by decide +kernel
theorem dX10_find_59 : decode cX10_find 59 = .ok (.invokestatic 39, 3) := by decide +kernel
theorem dX10_find_62 : decode cX10_find 62 = .ok (.return_, 1) := by decide +kernel
theorem dX10_extend_0 : decode cX10_extend 0 = .ok (.iload_n 2, 1) := by decide +kernel
theorem dX10_extend_1 : decode cX10_extend 1 = .ok (.aload_n 0, 1) := by decide +kernel
theorem dX10_extend_2 : decode cX10_extend 2 = .ok (.getfield 19, 3) := by decide +kernel
theorem dX10_extend_5 : decode cX10_extend 5 = .ok (.if_icmp .ne 10, 3) := by decide +kernel
theorem dX10_extend_8 : decode cX10_extend 8 = .ok (.aload_n 0, 1) := by decide +kernel
theorem dX10_extend_9 : decode cX10_extend 9 = .ok (.iload 4, 2) := by decide +kernel
theorem dX10_extend_11 : decode cX10_extend 11 = .ok (.invokevirtual 43, 3) := by decide +kernel
theorem dX10_extend_14 : decode cX10_extend 14 = .ok (.return_, 1) := by decide +kernel
theorem dX10_extend_15 : decode cX10_extend 15 = .ok (.iload 5, 2) := by decide +kernel
theorem dX10_extend_17 : decode cX10_extend 17 = .ok (.iconst 5, 1) := by decide +kernel
theorem dX10_extend_18 : decode cX10_extend 18 = .ok (.if_icmp .lt 4, 3) := by decide +kernel
theorem dX10_extend_21 : decode cX10_extend 21 = .ok (.return_, 1) := by decide +kernel
theorem dX10_extend_22 : decode cX10_extend 22 = .ok (.iconst 0, 1) := by decide +kernel
theorem dX10_extend_23 : decode cX10_extend 23 = .ok (.istore 6, 2) := by decide +kernel
theorem dX10_extend_25 : decode cX10_extend 25 = .ok (.iload 6, 2) := by decide +kernel
theorem dX10_extend_27 : decode cX10_extend 27 = .ok (.aload_n 1, 1) := by decide +kernel
theorem dX10_extend_28 : decode cX10_extend 28 = .ok (.getfield 31, 3) := by decide +kernel
theorem dX10_extend_31 : decode cX10_extend 31 = .ok (.if_icmp .ge 68, 3) := by decide +kernel
theorem dX10_extend_34 : decode cX10_extend 34 = .ok (.aload_n 1, 1) := by decide +kernel
theorem dX10_extend_35 : decode cX10_extend 35 = .ok (.iload 6, 2) := by decide +kernel
theorem dX10_extend_37 : decode cX10_extend 37 = .ok (.invokevirtual 47, 3) := by decide +kernel
theorem dX10_extend_40 : decode cX10_extend 40 = .ok (.astore 7, 2) := by decide +kernel
theorem dX10_extend_42 : decode cX10_extend 42 = .ok (.aload 7, 2) := by decide +kernel
theorem dX10_extend_44 : decode cX10_extend 44 = .ok (.iload_n 2, 1) := by decide +kernel
theorem dX10_extend_45 : decode cX10_extend 45 = .ok (.invokevirtual 51, 3) := by decide +kernel
theorem dX10_extend_48 : decode cX10_extend 48 = .ok (.istore 8, 2) := by decide +kernel
theorem dX10_extend_50 : decode cX10_extend 50 = .ok (.iload 8, 2) := by decide +kernel
theorem dX10_extend_52 : decode cX10_extend 52 = .ok (.ifCond .lt 41, 3) := by decide +kernel
theorem dX10_extend_55 : decode cX10_extend 55 = .ok (.iload_n 3, 1) := by decide +kernel
theorem dX10_extend_56 : decode cX10_extend 56 = .ok (.iload 8, 2) := by decide +kernel
theorem dX10_extend_58 : decode cX10_extend 58 = .ok (.invokestatic 56, 3) := by decide +kernel
theorem dX10_extend_61 : decode cX10_extend 61 = .ok (.ifCond .ne 32, 3) := by decide +kernel
theorem dX10_extend_64 : decode cX10_extend 64 = .ok (.aload_n 0, 1) := by decide +kernel
theorem dX10_extend_65 : decode cX10_extend 65 = .ok (.aload_n 1, 1) := by decide +kernel
theorem dX10_extend_66 : decode cX10_extend 66 = .ok (.iload 8, 2) := by decide +kernel
theorem dX10_extend_68 : decode cX10_extend 68 = .ok (.iload_n 3, 1) := by decide +kernel
theorem dX10_extend_69 : decode cX10_extend 69 = .ok (.iconst 1, 1) := by decide +kernel
theorem dX10_extend_70 : decode cX10_extend 70 = .ok (.iload 8, 2) := by decide +kernel
theorem dX10_extend_72 : decode cX10_extend 72 = .ok (.ishl, 1) := by decide +kernel
theorem dX10_extend_73 : decode cX10_extend 73 = .ok (.ior, 1) := by decide +kernel
theorem dX10_extend_74 : decode cX10_extend 74 = .ok (.iload 4, 2) := by decide +kernel
theorem dX10_extend_76 : decode cX10_extend 76 = .ok (.iload 6, 2) := by decide +kernel
theorem dX10_extend_78 : decode cX10_extend 78 = .ok (.aload 7, 2) := by decide +kernel
theorem dX10_extend_80 : decode cX10_extend 80 = .ok (.getfield 60, 3) := by decide +kernel
theorem dX10_extend_83 : decode cX10_extend 83 = .ok (.invokestatic 63, 3) := by decide +kernel
theorem dX10_extend_86 : decode cX10_extend 86 = .ok (.iload 5, 2) := by decide +kernel
theorem dX10_extend_88 : decode cX10_extend 88 = .ok (.iconst 1, 1) := by decide +kernel
theorem dX10_extend_89 : decode cX10_extend 89 = .ok (.iadd, 1) := by decide +kernel
theorem dX10_extend_90 : decode cX10_extend 90 = .ok (.invokestatic 39, 3) := by decide +kernel
theorem dX10_extend_93 : decode cX10_extend 93 = .ok (.iinc 6 1, 3) := by decide +kernel
theorem dX10_extend_96 : decode cX10_extend 96 = .ok (.goto (-71), 3) := by decide +kernel
theorem dX10_extend_99 : decode cX10_extend 99 = .ok (.return_, 1) := by decide +kernel
theorem dX10_insert_0 : decode cX10_insert 0 = .ok (.aload_n 0, 1) := by decide +kernel
theorem dX10_insert_1 : decode cX10_insert 1 = .ok (.getfield 36, 3) := by decide +kernel
theorem dX10_insert_4 : decode cX10_insert 4 = .ok (.bipush 27, 2) := by decide +kernel
theorem dX10_insert_6 : decode cX10_insert 6 = .ok (.if_icmp .lt 4, 3) := by decide +kernel
theorem dX10_insert_9 : decode cX10_insert 9 = .ok (.return_, 1) := by decide +kernel
theorem dX10_insert_10 : decode cX10_insert 10 = .ok (.aload_n 0, 1) := by decide +kernel
theorem dX10_insert_11 : decode cX10_insert 11 = .ok (.getfield 36, 3) := by decide +kernel
theorem dX10_insert_14 : decode cX10_insert 14 = .ok (.istore_n 2, 1) := by decide +kernel
theorem dX10_insert_15 : decode cX10_insert 15 = .ok (.iload_n 2, 1) := by decide +kernel
theorem dX10_insert_16 : decode cX10_insert 16 = .ok (.ifCond .le 35, 3) := by decide +kernel
theorem dX10_insert_19 : decode cX10_insert 19 = .ok (.aload_n 0, 1) := by decide +kernel
theorem dX10_insert_20 : decode cX10_insert 20 = .ok (.getfield 11, 3) := by decide +kernel
theorem dX10_insert_23 : decode cX10_insert 23 = .ok (.iload_n 2, 1) := by decide +kernel
theorem dX10_insert_24 : decode cX10_insert 24 = .ok (.iconst 1, 1) := by decide +kernel
theorem dX10_insert_25 : decode cX10_insert 25 = .ok (.isub, 1) := by decide +kernel
theorem dX10_insert_26 : decode cX10_insert 26 = .ok (.iaload, 1) := by decide +kernel
theorem dX10_insert_27 : decode cX10_insert 27 = .ok (.iload_n 1, 1) := by decide +kernel
theorem dX10_insert_28 : decode cX10_insert 28 = .ok (.if_icmp .le 23, 3) := by decide +kernel
theorem dX10_insert_31 : decode cX10_insert 31 = .ok (.aload_n 0, 1) := by decide +kernel
theorem dX10_insert_32 : decode cX10_insert 32 = .ok (.getfield 11, 3) := by decide +kernel
theorem dX10_insert_35 : decode cX10_insert 35 = .ok (.iload_n 2, 1) := by decide +kernel
theorem dX10_insert_36 : decode cX10_insert 36 = .ok (.aload_n 0, 1) := by decide +kernel
theorem dX10_insert_37 : decode cX10_insert 37 = .ok (.getfield 11, 3) := by decide +kernel
theorem dX10_insert_40 : decode cX10_insert 40 = .ok (.iload_n 2, 1) := by decide +kernel
theorem dX10_insert_41 : decode cX10_insert 41 = .ok (.iconst 1, 1) := by decide +kernel
theorem dX10_insert_42 : decode cX10_insert 42 = .ok (.isub, 1) := by decide +kernel
theorem dX10_insert_43 : decode cX10_insert 43 = .ok (.iaload, 1) := by decide +kernel
theorem dX10_insert_44 : decode cX10_insert 44 = .ok (.iastore, 1) := by decide +kernel
theorem dX10_insert_45 : decode cX10_insert 45 = .ok (.iinc 2 (-1), 3) := by decide +kernel
theorem dX10_insert_48 : decode cX10_insert 48 = .ok (.goto (-33), 3) := by decide +kernel
theorem dX10_insert_51 : decode cX10_insert 51 = .ok (.aload_n 0, 1) := by decide +kernel
theorem dX10_insert_52 : decode cX10_insert 52 = .ok (.getfield 11, 3) := by decide +kernel
theorem dX10_insert_55 : decode cX10_insert 55 = .ok (.iload_n 2, 1) := by decide +kernel
theorem dX10_insert_56 : decode cX10_insert 56 = .ok (.iload_n 1, 1) := by decide +kernel
theorem dX10_insert_57 : decode cX10_insert 57 = .ok (.iastore, 1) := by decide +kernel
theorem dX10_insert_58 : decode cX10_insert 58 = .ok (.aload_n 0, 1) := by decide +kernel
theorem dX10_insert_59 : decode cX10_insert 59 = .ok (.dup, 1) := by decide +kernel
theorem dX10_insert_60 : decode cX10_insert 60 = .ok (.getfield 36, 3) := by decide +kernel
theorem dX10_insert_63 : decode cX10_insert 63 = .ok (.iconst 1, 1) := by decide +kernel
theorem dX10_insert_64 : decode cX10_insert 64 = .ok (.iadd, 1) := by decide +kernel
theorem dX10_insert_65 : decode cX10_insert 65 = .ok (.putfield 36, 3) := by decide +kernel
theorem dX10_insert_68 : decode cX10_insert 68 = .ok (.return_, 1) := by decide +kernel
theorem dX11_init_0 : decode cX11_init 0 = .ok (.aload_n 0, 1) := by decide +kernel
theorem dX11_init_1 : decode cX11_init 1 = .ok (.invokespecial 3, 3) := by decide +kernel
theorem dX11_init_4 : decode cX11_init 4 = .ok (.new 9, 3) := by decide +kernel
theorem dX11_init_7 : decode cX11_init 7 = .ok (.dup, 1) := by decide +kernel
theorem dX11_init_8 : decode cX11_init 8 = .ok (.invokespecial 11, 3) := by decide +kernel
theorem dX11_init_11 : decode cX11_init 11 = .ok (.astore_n 1, 1) := by decide +kernel
theorem dX11_init_12 : decode cX11_init 12 = .ok (.new 12, 3) := by decide +kernel
theorem dX11_init_15 : decode cX11_init 15 = .ok (.dup, 1) := by decide +kernel
theorem dX11_init_16 : decode cX11_init 16 = .ok (.invokespecial 14, 3) := by decide +kernel
theorem dX11_init_19 : decode cX11_init 19 = .ok (.astore_n 2, 1) := by decide +kernel
theorem dX11_init_20 : decode cX11_init 20 = .ok (.aload_n 0, 1) := by decide +kernel
theorem dX11_init_21 : decode cX11_init 21 = .ok (.aload_n 1, 1) := by decide +kernel
theorem dX11_init_22 : decode cX11_init 22 = .ok (.putfield 15, 3) := by decide +kernel
theorem dX11_init_25 : decode cX11_init 25 = .ok (.aload_n 0, 1) := by decide +kernel
theorem dX11_init_26 : decode cX11_init 26 = .ok (.aload_n 2, 1) := by decide +kernel
theorem dX11_init_27 : decode cX11_init 27 = .ok (.putfield 19, 3) := by decide +kernel
theorem dX11_init_30 : decode cX11_init 30 = .ok (.aload_n 0, 1) := by decide +kernel
theorem dX11_init_31 : decode cX11_init 31 = .ok (.new 23, 3) := by decide +kernel
theorem dX11_init_34 : decode cX11_init 34 = .ok (.dup, 1) := by decide +kernel
theorem dX11_init_35 : decode cX11_init 35 = .ok (.invokespecial 25, 3) := by decide +kernel
theorem dX11_init_38 : decode cX11_init 38 = .ok (.putfield 26, 3) := by decide +kernel
theorem dX11_init_41 : decode cX11_init 41 = .ok (.aload_n 0, 1) := by decide +kernel
theorem dX11_init_42 : decode cX11_init 42 = .ok (.new 30, 3) := by decide +kernel
theorem dX11_init_45 : decode cX11_init 45 = .ok (.dup, 1) := by decide +kernel
theorem dX11_init_46 : decode cX11_init 46 = .ok (.invokespecial 32, 3) := by decide +kernel
theorem dX11_init_49 : decode cX11_init 49 = .ok (.putfield 33, 3) := by decide +kernel
theorem dX11_init_52 : decode cX11_init 52 = .ok (.aload_n 0, 1) := by decide +kernel
theorem dX11_init_53 : decode cX11_init 53 = .ok (.new 37, 3) := by decide +kernel
theorem dX11_init_56 : decode cX11_init 56 = .ok (.dup, 1) := by decide +kernel
theorem dX11_init_57 : decode cX11_init 57 = .ok (.aload_n 1, 1) := by decide +kernel
theorem dX11_init_58 : decode cX11_init 58 = .ok (.aload_n 2, 1) := by decide +kernel
theorem dX11_init_59 : decode cX11_init 59 = .ok (.invokespecial 39, 3) := by decide +kernel
theorem dX11_init_62 : decode cX11_init 62 = .ok (.putfield 42, 3) := by decide +kernel
theorem dX11_init_65 : decode cX11_init 65 = .ok (.aload_n 0, 1) := by decide +kernel
theorem dX11_init_66 : decode cX11_init 66 = .ok (.new 46, 3) := by decide +kernel
theorem dX11_init_69 : decode cX11_init 69 = .ok (.dup, 1) := by decide +kernel
theorem dX11_init_70 : decode cX11_init 70 = .ok (.aload_n 1, 1) := by decide +kernel
theorem dX11_init_71 : decode cX11_init 71 = .ok (.aload_n 2, 1) := by decide +kernel
theorem dX11_init_72 : decode cX11_init 72 = .ok (.invokespecial 48, 3) := by decide +kernel
theorem dX11_init_75 : decode cX11_init 75 = .ok (.putfield 49, 3) := by decide +kernel
theorem dX11_init_78 : decode cX11_init 78 = .ok (.iconst 4, 1) := by decide +kernel
theorem dX11_init_79 : decode cX11_init 79 = .ok (.anewarray 53, 3) := by decide +kernel
theorem dX11_init_82 : decode cX11_init 82 = .ok (.astore_n 3, 1) := by decide +kernel
theorem dX11_init_83 : decode cX11_init 83 = .ok (.iconst 0, 1) := by decide +kernel
theorem dX11_init_84 : decode cX11_init 84 = .ok (.istore 4, 2) := by decide +kernel
theorem dX11_init_86 : decode cX11_init 86 = .ok (.iload 4, 2) := by decide +kernel
theorem dX11_init_88 : decode cX11_init 88 = .ok (.iconst 4, 1) := by decide +kernel
theorem dX11_init_89 : decode cX11_init 89 = .ok (.if_icmp .ge 20, 3) := by decide +kernel
theorem dX11_init_92 : decode cX11_init 92 = .ok (.aload_n 3, 1) := by decide +kernel
theorem dX11_init_93 : decode cX11_init 93 = .ok (.iload 4, 2) := by decide +kernel
theorem dX11_init_95 : decode cX11_init 95 = .ok (.new 53, 3) := by decide +kernel
theorem dX11_init_98 : decode cX11_init 98 = .ok (.dup, 1) := by decide +kernel
theorem dX11_init_99 : decode cX11_init 99 = .ok (.invokespecial 55, 3) := by decide +kernel
theorem dX11_init_102 : decode cX11_init 102 = .ok (.aastore, 1) := by decide +kernel
theorem dX11_init_103 : decode cX11_init 103 = .ok (.iinc 4 1, 3) := by decide +kernel
theorem dX11_init_106 : decode cX11_init 106 = .ok (.goto (-20), 3) := by decide +kernel
theorem dX11_init_109 : decode cX11_init 109 = .ok (.aload_n 0, 1) := by decide +kernel
theorem dX11_init_110 : decode cX11_init 110 = .ok (.aload_n 3, 1) := by decide +kernel
theorem dX11_init_111 : decode cX11_init 111 = .ok (.putfield 56, 3) := by decide +kernel
theorem dX11_init_114 : decode cX11_init 114 = .ok (.return_, 1) := by decide +kernel
theorem dX11_node_0 : decode cX11_node 0 = .ok (.iload_n 1, 1) := by decide +kernel
theorem dX11_node_1 : decode cX11_node 1 = .ok (.iconst 0, 1) := by decide +kernel
theorem dX11_node_2 : decode cX11_node 2 = .ok (.bipush 100, 2) := by decide +kernel
theorem dX11_node_4 : decode cX11_node 4 = .ok (.invokestatic 60, 3) := by decide +kernel
theorem dX11_node_7 : decode cX11_node 7 = .ok (.ifCond .ne 10, 3) := by decide +kernel
theorem dX11_node_10 : decode cX11_node 10 = .ok (.aload_n 0, 1) := by decide +kernel
theorem dX11_node_11 : decode cX11_node 11 = .ok (.ldc 64, 2) := by decide +kernel
theorem dX11_node_13 : decode cX11_node 13 = .ok (.invokevirtual 65, 3) := by decide +kernel
theorem dX11_node_16 : decode cX11_node 16 = .ok (.ireturn, 1) := by decide +kernel
theorem dX11_node_17 : decode cX11_node 17 = .ok (.aload_n 0, 1) := by decide +kernel
theorem dX11_node_18 : decode cX11_node 18 = .ok (.getfield 15, 3) := by decide +kernel
theorem dX11_node_21 : decode cX11_node 21 = .ok (.getfield 69, 3) := by decide +kernel
theorem dX11_node_24 : decode cX11_node 24 = .ok (.bipush 6, 2) := by decide +kernel
theorem dX11_node_26 : decode cX11_node 26 = .ok (.if_icmp .lt 12, 3) := by decide +kernel
theorem dX11_node_29 : decode cX11_node 29 = .ok (.aload_n 0, 1) := by decide +kernel
theorem dX11_node_30 : decode cX11_node 30 = .ok (.ldc 73, 2) := by decide +kernel
theorem dX11_node_32 : decode cX11_node 32 = .ok (.invokevirtual 65, 3) := by decide +kernel
theorem dX11_node_35 : decode cX11_node 35 = .ok (.goto 11, 3) := by decide +kernel
theorem dX11_node_38 : decode cX11_node 38 = .ok (.aload_n 0, 1) := by decide +kernel
theorem dX11_node_39 : decode cX11_node 39 = .ok (.getfield 15, 3) := by decide +kernel
theorem dX11_node_42 : decode cX11_node 42 = .ok (.iload_n 1, 1) := by decide +kernel
theorem dX11_node_43 : decode cX11_node 43 = .ok (.invokevirtual 74, 3) := by decide +kernel
theorem dX11_node_46 : decode cX11_node 46 = .ok (.ireturn, 1) := by decide +kernel
theorem dX11_line_0 : decode cX11_line 0 = .ok (.aload_n 0, 1) := by decide +kernel
theorem dX11_line_1 : decode cX11_line 1 = .ok (.getfield 15, 3) := by decide +kernel
theorem dX11_line_4 : decode cX11_line 4 = .ok (.iload_n 1, 1) := by decide +kernel
theorem dX11_line_5 : decode cX11_line 5 = .ok (.iload_n 2, 1) := by decide +kernel
theorem dX11_line_6 : decode cX11_line 6 = .ok (.invokevirtual 77, 3) := by decide +kernel
theorem dX11_line_9 : decode cX11_line 9 = .ok (.ifCond .eq 39, 3) := by decide +kernel
theorem dX11_line_12 : decode cX11_line 12 = .ok (.iload_n 3, 1) := by decide +kernel
theorem dX11_line_13 : decode cX11_line 13 = .ok (.iconst 1, 1) := by decide +kernel
theorem dX11_line_14 : decode cX11_line 14 = .ok (.bipush 50, 2) := by decide +kernel
theorem dX11_line_16 : decode cX11_line 16 = .ok (.invokestatic 60, 3) := by decide +kernel
theorem dX11_line_19 : decode cX11_line 19 = .ok (.ifCond .eq 29, 3) := by decide +kernel
theorem dX11_line_22 : decode cX11_line 22 = .ok (.iload 4, 2) := by decide +kernel
theorem dX11_line_24 : decode cX11_line 24 = .ok (.iconst 1, 1) := by decide +kernel
theorem dX11_line_25 : decode cX11_line 25 = .ok (.bipush 9, 2) := by decide +kernel
theorem dX11_line_27 : decode cX11_line 27 = .ok (.invokestatic 60, 3) := by decide +kernel
theorem dX11_line_30 : decode cX11_line 30 = .ok (.ifCond .eq 18, 3) := by decide +kernel
theorem dX11_line_33 : decode cX11_line 33 = .ok (.iload 5, 2) := by decide +kernel
theorem dX11_line_35 : decode cX11_line 35 = .ok (.iconst 0, 1) := by decide +kernel
theorem dX11_line_36 : decode cX11_line 36 = .ok (.bipush 9, 2) := by decide +kernel
theorem dX11_line_38 : decode cX11_line 38 = .ok (.invokestatic 60, 3) := by decide +kernel
theorem dX11_line_41 : decode cX11_line 41 = .ok (.ifCond .eq 7, 3) := by decide +kernel
theorem dX11_line_44 : decode cX11_line 44 = .ok (.iconst 1, 1) := by decide +kernel
theorem dX11_line_45 : decode cX11_line 45 = .ok (.goto 4, 3) := by decide +kernel
theorem dX11_line_48 : decode cX11_line 48 = .ok (.iconst 0, 1) := by decide +kernel
theorem dX11_line_49 : decode cX11_line 49 = .ok (.istore 6, 2) := by decide +kernel
theorem dX11_line_51 : decode cX11_line 51 = .ok (.iload 6, 2) := by decide +kernel
theorem dX11_line_53 : decode cX11_line 53 = .ok (.ifCond .ne 10, 3) := by decide +kernel
theorem dX11_line_56 : decode cX11_line 56 = .ok (.aload_n 0, 1) := by decide +kernel
theorem dX11_line_57 : decode cX11_line 57 = .ok (.ldc 64, 2) := by decide +kernel
theorem dX11_line_59 : decode cX11_line 59 = .ok (.invokevirtual 65, 3) := by decide +kernel
theorem dX11_line_62 : decode cX11_line 62 = .ok (.ireturn, 1) := by decide +kernel
theorem dX11_line_63 : decode cX11_line 63 = .ok (.aload_n 0, 1) := by decide +kernel
theorem dX11_line_64 : decode cX11_line 64 = .ok (.getfield 15, 3) := by decide +kernel
theorem dX11_line_67 : decode cX11_line 67 = .ok (.getfield 81, 3) := by decide +kernel
theorem dX11_line_70 : decode cX11_line 70 = .ok (.bipush 9, 2) := by decide +kernel
theorem dX11_line_72 : decode cX11_line 72 = .ok (.if_icmp .lt 12, 3) := by decide +kernel
theorem dX11_line_75 : decode cX11_line 75 = .ok (.aload_n 0, 1) := by decide +kernel
theorem dX11_line_76 : decode cX11_line 76 = .ok (.ldc 73, 2) := by decide +kernel
theorem dX11_line_78 : decode cX11_line 78 = .ok (.invokevirtual 65, 3) := by decide +kernel
theorem dX11_line_81 : decode cX11_line 81 = .ok (.goto 17, 3) := by decide +kernel
theorem dX11_line_84 : decode cX11_line 84 = .ok (.aload_n 0, 1) := by decide +kernel
theorem dX11_line_85 : decode cX11_line 85 = .ok (.getfield 15, 3) := by decide +kernel
theorem dX11_line_88 : decode cX11_line 88 = .ok (.iload_n 1, 1) := by decide +kernel
theorem dX11_line_89 : decode cX11_line 89 = .ok (.iload_n 2, 1) := by decide +kernel
theorem dX11_line_90 : decode cX11_line 90 = .ok (.iload_n 3, 1) := by decide +kernel
theorem dX11_line_91 : decode cX11_line 91 = .ok (.iload 4, 2) := by decide +kernel
theorem dX11_line_93 : decode cX11_line 93 = .ok (.iload 5, 2) := by decide +kernel
theorem dX11_line_95 : decode cX11_line 95 = .ok (.invokevirtual 84, 3) := by decide +kernel
theorem dX11_line_98 : decode cX11_line 98 = .ok (.ireturn, 1) := by decide +kernel
theorem dX11_up_0 : decode cX11_up 0 = .ok (.aload_n 0, 1) := by decide +kernel
theorem dX11_up_1 : decode cX11_up 1 = .ok (.getfield 15, 3) := by decide +kernel
theorem dX11_up_4 : decode cX11_up 4 = .ok (.iload_n 1, 1) := by decide +kernel
theorem dX11_up_5 : decode cX11_up 5 = .ok (.invokevirtual 88, 3) := by decide +kernel
theorem dX11_up_8 : decode cX11_up 8 = .ok (.ifCond .ne 10, 3) := by decide +kernel
theorem dX11_up_11 : decode cX11_up 11 = .ok (.aload_n 0, 1) := by decide +kernel
theorem dX11_up_12 : decode cX11_up 12 = .ok (.ldc 64, 2) := by decide +kernel
theorem dX11_up_14 : decode cX11_up 14 = .ok (.invokevirtual 65, 3) := by decide +kernel
theorem dX11_up_17 : decode cX11_up 17 = .ok (.ireturn, 1) := by decide +kernel
theorem dX11_up_18 : decode cX11_up 18 = .ok (.aload_n 0, 1) := by decide +kernel
theorem dX11_up_19 : decode cX11_up 19 = .ok (.getfield 15, 3) := by decide +kernel
theorem dX11_up_22 : decode cX11_up 22 = .ok (.iload_n 1, 1) := by decide +kernel
theorem dX11_up_23 : decode cX11_up 23 = .ok (.iload_n 2, 1) := by decide +kernel
theorem dX11_up_24 : decode cX11_up 24 = .ok (.invokevirtual 92, 3) := by decide +kernel
theorem dX11_up_27 : decode cX11_up 27 = .ok (.ifCond .eq 7, 3) := by decide +kernel
theorem dX11_up_30 : decode cX11_up 30 = .ok (.iconst 1, 1) := by decide +kernel
theorem dX11_up_31 : decode cX11_up 31 = .ok (.goto 4, 3) := by decide +kernel
theorem dX11_up_34 : decode cX11_up 34 = .ok (.iconst 0, 1) := by decide +kernel
theorem dX11_up_35 : decode cX11_up 35 = .ok (.ireturn, 1) := by decide +kernel
theorem dX11_ways_0 : decode cX11_ways 0 = .ok (.aload_n 0, 1) := by decide +kernel
theorem dX11_ways_1 : decode cX11_ways 1 = .ok (.getfield 15, 3) := by decide +kernel
theorem dX11_ways_4 : decode cX11_ways 4 = .ok (.iload_n 1, 1) := by decide +kernel
theorem dX11_ways_5 : decode cX11_ways 5 = .ok (.iload_n 2, 1) := by decide +kernel
theorem dX11_ways_6 : decode cX11_ways 6 = .ok (.invokevirtual 77, 3) := by decide +kernel
theorem dX11_ways_9 : decode cX11_ways 9 = .ok (.ifCond .eq 18, 3) := by decide +kernel
theorem dX11_ways_12 : decode cX11_ways 12 = .ok (.aload_n 0, 1) := by decide +kernel
theorem dX11_ways_13 : decode cX11_ways 13 = .ok (.getfield 15, 3) := by decide +kernel
theorem dX11_ways_16 : decode cX11_ways 16 = .ok (.iload_n 1, 1) := by decide +kernel
theorem dX11_ways_17 : decode cX11_ways 17 = .ok (.iload_n 2, 1) := by decide +kernel
theorem dX11_ways_18 : decode cX11_ways 18 = .ok (.invokevirtual 96, 3) := by decide +kernel
theorem dX11_ways_21 : decode cX11_ways 21 = .ok (.getfield 100, 3) := by decide +kernel
theorem dX11_ways_24 : decode cX11_ways 24 = .ok (.goto 9, 3) := by decide +kernel
theorem dX11_ways_27 : decode cX11_ways 27 = .ok (.aload_n 0, 1) := by decide +kernel
theorem dX11_ways_28 : decode cX11_ways 28 = .ok (.ldc 64, 2) := by decide +kernel
theorem dX11_ways_30 : decode cX11_ways 30 = .ok (.invokevirtual 65, 3) := by decide +kernel
theorem dX11_ways_33 : decode cX11_ways 33 = .ok (.ireturn, 1) := by decide +kernel
theorem dX11_way_0 : decode cX11_way 0 = .ok (.aload_n 0, 1) := by decide +kernel
theorem dX11_way_1 : decode cX11_way 1 = .ok (.getfield 15, 3) := by decide +kernel
theorem dX11_way_4 : decode cX11_way 4 = .ok (.iload_n 1, 1) := by decide +kernel
theorem dX11_way_5 : decode cX11_way 5 = .ok (.iload_n 2, 1) := by decide +kernel
theorem dX11_way_6 : decode cX11_way 6 = .ok (.invokevirtual 77, 3) := by decide +kernel
theorem dX11_way_9 : decode cX11_way 9 = .ok (.ifCond .eq 13, 3) := by decide +kernel
theorem dX11_way_12 : decode cX11_way 12 = .ok (.iload_n 3, 1) := by decide +kernel
theorem dX11_way_13 : decode cX11_way 13 = .ok (.ifCond .lt 9, 3) := by decide +kernel
theorem dX11_way_16 : decode cX11_way 16 = .ok (.iload 4, 2) := by decide +kernel
theorem dX11_way_18 : decode cX11_way 18 = .ok (.iconst (-1), 1) := by decide +kernel
theorem dX11_way_19 : decode cX11_way 19 = .ok (.if_icmp .ge 10, 3) := by decide +kernel
theorem dX11_way_22 : decode cX11_way 22 = .ok (.aload_n 0, 1) := by decide +kernel
theorem dX11_way_23 : decode cX11_way 23 = .ok (.ldc 64, 2) := by decide +kernel
theorem dX11_way_25 : decode cX11_way 25 = .ok (.invokevirtual 65, 3) := by decide +kernel
theorem dX11_way_28 : decode cX11_way 28 = .ok (.ireturn, 1) := by decide +kernel
theorem dX11_way_29 : decode cX11_way 29 = .ok (.aload_n 0, 1) := by decide +kernel
theorem dX11_way_30 : decode cX11_way 30 = .ok (.getfield 15, 3) := by decide +kernel
theorem dX11_way_33 : decode cX11_way 33 = .ok (.iload_n 1, 1) := by decide +kernel
theorem dX11_way_34 : decode cX11_way 34 = .ok (.iload_n 2, 1) := by decide +kernel
theorem dX11_way_35 : decode cX11_way 35 = .ok (.invokevirtual 96, 3) := by decide +kernel
theorem dX11_way_38 : decode cX11_way 38 = .ok (.astore 5, 2) := by decide +kernel
theorem dX11_way_40 : decode cX11_way 40 = .ok (.iload_n 3, 1) := by decide +kernel
theorem dX11_way_41 : decode cX11_way 41 = .ok (.aload 5, 2) := by decide +kernel
theorem dX11_way_43 : decode cX11_way 43 = .ok (.getfield 100, 3) := by decide +kernel
theorem dX11_way_46 : decode cX11_way 46 = .ok (.if_icmp .lt 10, 3) := by decide +kernel
theorem dX11_way_49 : decode cX11_way 49 = .ok (.aload_n 0, 1) := by decide +kernel
theorem dX11_way_50 : decode cX11_way 50 = .ok (.ldc 105, 2) := by decide +kernel
theorem dX11_way_52 : decode cX11_way 52 = .ok (.invokevirtual 65, 3) := by decide +kernel
theorem dX11_way_55 : decode cX11_way 55 = .ok (.ireturn, 1) := by decide +kernel
theorem dX11_way_56 : decode cX11_way 56 = .ok (.aload 5, 2) := by decide +kernel
theorem dX11_way_58 : decode cX11_way 58 = .ok (.iload_n 3, 1) := by decide +kernel
theorem dX11_way_59 : decode cX11_way 59 = .ok (.invokevirtual 106, 3) := by decide +kernel
theorem dX11_way_62 : decode cX11_way 62 = .ok (.istore 6, 2) := by decide +kernel
theorem dX11_way_64 : decode cX11_way 64 = .ok (.iload 4, 2) := by decide +kernel
theorem dX11_way_66 : decode cX11_way 66 = .ok (.iconst (-1), 1) := by decide +kernel
theorem dX11_way_67 : decode cX11_way 67 = .ok (.if_icmp .ne 11, 3) := by decide +kernel
theorem dX11_way_70 : decode cX11_way 70 = .ok (.iload 6, 2) := by decide +kernel
theorem dX11_way_72 : decode cX11_way 72 = .ok (.invokestatic 109, 3) := by decide +kernel
theorem dX11_way_75 : decode cX11_way 75 = .ok (.goto 10, 3) := by decide +kernel
theorem dX11_way_78 : decode cX11_way 78 = .ok (.iload 6, 2) := by decide +kernel
theorem dX11_way_80 : decode cX11_way 80 = .ok (.iload 4, 2) := by decide +kernel
theorem dX11_way_82 : decode cX11_way 82 = .ok (.invokestatic 112, 3) := by decide +kernel
theorem dX11_way_85 : decode cX11_way 85 = .ok (.ireturn, 1) := by decide +kernel
theorem dX11_flow_0 : decode cX11_flow 0 = .ok (.aload_n 0, 1) := by decide +kernel
theorem dX11_flow_1 : decode cX11_flow 1 = .ok (.getfield 15, 3) := by decide +kernel
theorem dX11_flow_4 : decode cX11_flow 4 = .ok (.iload_n 1, 1) := by decide +kernel
theorem dX11_flow_5 : decode cX11_flow 5 = .ok (.iload_n 2, 1) := by decide +kernel
theorem dX11_flow_6 : decode cX11_flow 6 = .ok (.invokevirtual 77, 3) := by decide +kernel
theorem dX11_flow_9 : decode cX11_flow 9 = .ok (.ifCond .eq 10, 3) := by decide +kernel
theorem dX11_flow_12 : decode cX11_flow 12 = .ok (.iload_n 3, 1) := by decide +kernel
theorem dX11_flow_13 : decode cX11_flow 13 = .ok (.invokestatic 116, 3) := by decide +kernel
theorem dX11_flow_16 : decode cX11_flow 16 = .ok (.ifCond .ne 10, 3) := by decide +kernel
theorem dX11_flow_19 : decode cX11_flow 19 = .ok (.aload_n 0, 1) := by decide +kernel
theorem dX11_flow_20 : decode cX11_flow 20 = .ok (.ldc 64, 2) := by decide +kernel
theorem dX11_flow_22 : decode cX11_flow 22 = .ok (.invokevirtual 65, 3) := by decide +kernel
theorem dX11_flow_25 : decode cX11_flow 25 = .ok (.ireturn, 1) := by decide +kernel
theorem dX11_flow_26 : decode cX11_flow 26 = .ok (.aload_n 0, 1) := by decide +kernel
theorem dX11_flow_27 : decode cX11_flow 27 = .ok (.getfield 33, 3) := by decide +kernel
theorem dX11_flow_30 : decode cX11_flow 30 = .ok (.aload_n 0, 1) := by decide +kernel
theorem dX11_flow_31 : decode cX11_flow 31 = .ok (.getfield 15, 3) := by decide +kernel
theorem dX11_flow_34 : decode cX11_flow 34 = .ok (.aload_n 0, 1) := by decide +kernel
theorem dX11_flow_35 : decode cX11_flow 35 = .ok (.getfield 26, 3) := by decide +kernel
theorem dX11_flow_38 : decode cX11_flow 38 = .ok (.iload_n 1, 1) := by decide +kernel
theorem dX11_flow_39 : decode cX11_flow 39 = .ok (.iload_n 2, 1) := by decide +kernel
theorem dX11_flow_40 : decode cX11_flow 40 = .ok (.iload_n 3, 1) := by decide +kernel
theorem dX11_flow_41 : decode cX11_flow 41 = .ok (.invokevirtual 119, 3) := by decide +kernel
theorem dX11_flow_44 : decode cX11_flow 44 = .ok (.aload_n 0, 1) := by decide +kernel
theorem dX11_flow_45 : decode cX11_flow 45 = .ok (.getfield 33, 3) := by decide +kernel
theorem dX11_flow_48 : decode cX11_flow 48 = .ok (.getfield 123, 3) := by decide +kernel
theorem dX11_flow_51 : decode cX11_flow 51 = .ok (.ireturn, 1) := by decide +kernel
theorem dX11_cut_0 : decode cX11_cut 0 = .ok (.aload_n 0, 1) := by decide +kernel
theorem dX11_cut_1 : decode cX11_cut 1 = .ok (.getfield 15, 3) := by decide +kernel
theorem dX11_cut_4 : decode cX11_cut 4 = .ok (.iload_n 1, 1) := by decide +kernel
theorem dX11_cut_5 : decode cX11_cut 5 = .ok (.iload_n 2, 1) := by decide +kernel
theorem dX11_cut_6 : decode cX11_cut 6 = .ok (.invokevirtual 77, 3) := by decide +kernel
theorem dX11_cut_9 : decode cX11_cut 9 = .ok (.ifCond .eq 10, 3) := by decide +kernel
theorem dX11_cut_12 : decode cX11_cut 12 = .ok (.iload_n 3, 1) := by decide +kernel
theorem dX11_cut_13 : decode cX11_cut 13 = .ok (.invokestatic 116, 3) := by decide +kernel
theorem dX11_cut_16 : decode cX11_cut 16 = .ok (.ifCond .ne 10, 3) := by decide +kernel
theorem dX11_cut_19 : decode cX11_cut 19 = .ok (.aload_n 0, 1) := by decide +kernel
theorem dX11_cut_20 : decode cX11_cut 20 = .ok (.ldc 64, 2) := by decide +kernel
theorem dX11_cut_22 : decode cX11_cut 22 = .ok (.invokevirtual 65, 3) := by decide +kernel
theorem dX11_cut_25 : decode cX11_cut 25 = .ok (.ireturn, 1) := by decide +kernel
theorem dX11_cut_26 : decode cX11_cut 26 = .ok (.aload_n 0, 1) := by decide +kernel
theorem dX11_cut_27 : decode cX11_cut 27 = .ok (.getfield 33, 3) := by decide +kernel
theorem dX11_cut_30 : decode cX11_cut 30 = .ok (.aload_n 0, 1) := by decide +kernel
theorem dX11_cut_31 : decode cX11_cut 31 = .ok (.getfield 15, 3) := by decide +kernel
theorem dX11_cut_34 : decode cX11_cut 34 = .ok (.aload_n 0, 1) := by decide +kernel
theorem dX11_cut_35 : decode cX11_cut 35 = .ok (.getfield 26, 3) := by decide +kernel
theorem dX11_cut_38 : decode cX11_cut 38 = .ok (.iload_n 1, 1) := by decide +kernel
theorem dX11_cut_39 : decode cX11_cut 39 = .ok (.iload_n 2, 1) := by decide +kernel
theorem dX11_cut_40 : decode cX11_cut 40 = .ok (.iload_n 3, 1) := by decide +kernel
theorem dX11_cut_41 : decode cX11_cut 41 = .ok (.invokevirtual 119, 3) := by decide +kernel
theorem dX11_cut_44 : decode cX11_cut 44 = .ok (.aload_n 0, 1) := by decide +kernel
theorem dX11_cut_45 : decode cX11_cut 45 = .ok (.getfield 33, 3) := by decide +kernel
theorem dX11_cut_48 : decode cX11_cut 48 = .ok (.getfield 126, 3) := by decide +kernel
theorem dX11_cut_51 : decode cX11_cut 51 = .ok (.ireturn, 1) := by decide +kernel
theorem dX11_slice_0 : decode cX11_slice 0 = .ok (.iload_n 1, 1) := by decide +kernel
theorem dX11_slice_1 : decode cX11_slice 1 = .ok (.invokestatic 129, 3) := by decide +kernel
theorem dX11_slice_4 : decode cX11_slice 4 = .ok (.ifCond .eq 41, 3) := by decide +kernel
theorem dX11_slice_7 : decode cX11_slice 7 = .ok (.aload_n 0, 1) := by decide +kernel
theorem dX11_slice_8 : decode cX11_slice 8 = .ok (.getfield 15, 3) := by decide +kernel
theorem dX11_slice_11 : decode cX11_slice 11 = .ok (.iload_n 2, 1) := by decide +kernel
theorem dX11_slice_12 : decode cX11_slice 12 = .ok (.iload_n 3, 1) := by decide +kernel
theorem dX11_slice_13 : decode cX11_slice 13 = .ok (.invokevirtual 77, 3) := by decide +kernel
theorem dX11_slice_16 : decode cX11_slice 16 = .ok (.ifCond .eq 29, 3) := by decide +kernel
theorem dX11_slice_19 : decode cX11_slice 19 = .ok (.iload 4, 2) := by decide +kernel
theorem dX11_slice_21 : decode cX11_slice 21 = .ok (.iconst 1, 1) := by decide +kernel
theorem dX11_slice_22 : decode cX11_slice 22 = .ok (.bipush 20, 2) := by decide +kernel
theorem dX11_slice_24 : decode cX11_slice 24 = .ok (.invokestatic 60, 3) := by decide +kernel
theorem dX11_slice_27 : decode cX11_slice 27 = .ok (.ifCond .eq 18, 3) := by decide +kernel
theorem dX11_slice_30 : decode cX11_slice 30 = .ok (.iload 5, 2) := by decide +kernel
theorem dX11_slice_32 : decode cX11_slice 32 = .ok (.iconst 1, 1) := by decide +kernel
theorem dX11_slice_33 : decode cX11_slice 33 = .ok (.bipush 99, 2) := by decide +kernel
theorem dX11_slice_35 : decode cX11_slice 35 = .ok (.invokestatic 60, 3) := by decide +kernel
theorem dX11_slice_38 : decode cX11_slice 38 = .ok (.ifCond .eq 7, 3) := by decide +kernel
theorem dX11_slice_41 : decode cX11_slice 41 = .ok (.iconst 1, 1) := by decide +kernel
theorem dX11_slice_42 : decode cX11_slice 42 = .ok (.goto 4, 3) := by decide +kernel
theorem dX11_slice_45 : decode cX11_slice 45 = .ok (.iconst 0, 1) := by decide +kernel
theorem dX11_slice_46 : decode cX11_slice 46 = .ok (.istore 6, 2) := by decide +kernel
theorem dX11_slice_48 : decode cX11_slice 48 = .ok (.iload 6, 2) := by decide +kernel
theorem dX11_slice_50 : decode cX11_slice 50 = .ok (.ifCond .ne 10, 3) := by decide +kernel
theorem dX11_slice_53 : decode cX11_slice 53 = .ok (.aload_n 0, 1) := by decide +kernel
theorem dX11_slice_54 : decode cX11_slice 54 = .ok (.ldc 64, 2) := by decide +kernel
theorem dX11_slice_56 : decode cX11_slice 56 = .ok (.invokevirtual 65, 3) := by decide +kernel
theorem dX11_slice_59 : decode cX11_slice 59 = .ok (.ireturn, 1) := by decide +kernel
theorem dX11_slice_60 : decode cX11_slice 60 = .ok (.aload_n 0, 1) := by decide +kernel
theorem dX11_slice_61 : decode cX11_slice 61 = .ok (.getfield 19, 3) := by decide +kernel
theorem dX11_slice_64 : decode cX11_slice 64 = .ok (.getfield 132, 3) := by decide +kernel
theorem dX11_slice_67 : decode cX11_slice 67 = .ok (.bipush 8, 2) := by decide +kernel
theorem dX11_slice_69 : decode cX11_slice 69 = .ok (.if_icmp .lt 12, 3) := by decide +kernel
theorem dX11_slice_72 : decode cX11_slice 72 = .ok (.aload_n 0, 1) := by decide +kernel
theorem dX11_slice_73 : decode cX11_slice 73 = .ok (.ldc 73, 2) := by decide +kernel
theorem dX11_slice_75 : decode cX11_slice 75 = .ok (.invokevirtual 65, 3) := by decide +kernel
theorem dX11_slice_78 : decode cX11_slice 78 = .ok (.goto 17, 3) := by decide +kernel
theorem dX11_slice_81 : decode cX11_slice 81 = .ok (.aload_n 0, 1) := by decide +kernel
theorem dX11_slice_82 : decode cX11_slice 82 = .ok (.getfield 19, 3) := by decide +kernel
theorem dX11_slice_85 : decode cX11_slice 85 = .ok (.iload_n 1, 1) := by decide +kernel
theorem dX11_slice_86 : decode cX11_slice 86 = .ok (.iload_n 2, 1) := by decide +kernel
theorem dX11_slice_87 : decode cX11_slice 87 = .ok (.iload_n 3, 1) := by decide +kernel
theorem dX11_slice_88 : decode cX11_slice 88 = .ok (.iload 4, 2) := by decide +kernel
theorem dX11_slice_90 : decode cX11_slice 90 = .ok (.iload 5, 2) := by decide +kernel
theorem dX11_slice_92 : decode cX11_slice 92 = .ok (.invokevirtual 133, 3) := by decide +kernel
theorem dX11_slice_95 : decode cX11_slice 95 = .ok (.ireturn, 1) := by decide +kernel
theorem dX11_terms_0 : decode cX11_terms 0 = .ok (.aload_n 0, 1) := by decide +kernel
theorem dX11_terms_1 : decode cX11_terms 1 = .ok (.getfield 19, 3) := by decide +kernel
theorem dX11_terms_4 : decode cX11_terms 4 = .ok (.iload_n 1, 1) := by decide +kernel
theorem dX11_terms_5 : decode cX11_terms 5 = .ok (.invokevirtual 136, 3) := by decide +kernel
theorem dX11_terms_8 : decode cX11_terms 8 = .ok (.ifCond .eq 48, 3) := by decide +kernel
theorem dX11_terms_11 : decode cX11_terms 11 = .ok (.iload_n 2, 1) := by decide +kernel
theorem dX11_terms_12 : decode cX11_terms 12 = .ok (.iconst 0, 1) := by decide +kernel
theorem dX11_terms_13 : decode cX11_terms 13 = .ok (.aload_n 0, 1) := by decide +kernel
theorem dX11_terms_14 : decode cX11_terms 14 = .ok (.getfield 19, 3) := by decide +kernel
theorem dX11_terms_17 : decode cX11_terms 17 = .ok (.iload_n 1, 1) := by decide +kernel
theorem dX11_terms_18 : decode cX11_terms 18 = .ok (.invokevirtual 139, 3) := by decide +kernel
theorem dX11_terms_21 : decode cX11_terms 21 = .ok (.getfield 143, 3) := by decide +kernel
theorem dX11_terms_24 : decode cX11_terms 24 = .ok (.invokestatic 60, 3) := by decide +kernel
theorem dX11_terms_27 : decode cX11_terms 27 = .ok (.ifCond .eq 29, 3) := by decide +kernel
theorem dX11_terms_30 : decode cX11_terms 30 = .ok (.iload_n 3, 1) := by decide +kernel
theorem dX11_terms_31 : decode cX11_terms 31 = .ok (.iconst 0, 1) := by decide +kernel
theorem dX11_terms_32 : decode cX11_terms 32 = .ok (.bipush 20, 2) := by decide +kernel
theorem dX11_terms_34 : decode cX11_terms 34 = .ok (.invokestatic 60, 3) := by decide +kernel
theorem dX11_terms_37 : decode cX11_terms 37 = .ok (.ifCond .eq 19, 3) := by decide +kernel
theorem dX11_terms_40 : decode cX11_terms 40 = .ok (.iload 4, 2) := by decide +kernel
theorem dX11_terms_42 : decode cX11_terms 42 = .ok (.iconst 0, 1) := by decide +kernel
theorem dX11_terms_43 : decode cX11_terms 43 = .ok (.sipush 1000, 3) := by decide +kernel
theorem dX11_terms_46 : decode cX11_terms 46 = .ok (.invokestatic 60, 3) := by decide +kernel
theorem dX11_terms_49 : decode cX11_terms 49 = .ok (.ifCond .eq 7, 3) := by decide +kernel
theorem dX11_terms_52 : decode cX11_terms 52 = .ok (.iconst 1, 1) := by decide +kernel
theorem dX11_terms_53 : decode cX11_terms 53 = .ok (.goto 4, 3) := by decide +kernel
theorem dX11_terms_56 : decode cX11_terms 56 = .ok (.iconst 0, 1) := by decide +kernel
theorem dX11_terms_57 : decode cX11_terms 57 = .ok (.istore 5, 2) := by decide +kernel
theorem dX11_terms_59 : decode cX11_terms 59 = .ok (.iload 5, 2) := by decide +kernel
theorem dX11_terms_61 : decode cX11_terms 61 = .ok (.ifCond .ne 10, 3) := by decide +kernel
theorem dX11_terms_64 : decode cX11_terms 64 = .ok (.aload_n 0, 1) := by decide +kernel
theorem dX11_terms_65 : decode cX11_terms 65 = .ok (.ldc 64, 2) := by decide +kernel
theorem dX11_terms_67 : decode cX11_terms 67 = .ok (.invokevirtual 65, 3) := by decide +kernel
theorem dX11_terms_70 : decode cX11_terms 70 = .ok (.ireturn, 1) := by decide +kernel
theorem dX11_terms_71 : decode cX11_terms 71 = .ok (.aload_n 0, 1) := by decide +kernel
theorem dX11_terms_72 : decode cX11_terms 72 = .ok (.getfield 19, 3) := by decide +kernel
theorem dX11_terms_75 : decode cX11_terms 75 = .ok (.iload_n 1, 1) := by decide +kernel
theorem dX11_terms_76 : decode cX11_terms 76 = .ok (.invokevirtual 139, 3) := by decide +kernel
theorem dX11_terms_79 : decode cX11_terms 79 = .ok (.astore 6, 2) := by decide +kernel
theorem dX11_terms_81 : decode cX11_terms 81 = .ok (.aload 6, 2) := by decide +kernel
theorem dX11_terms_83 : decode cX11_terms 83 = .ok (.invokevirtual 148, 3) := by decide +kernel
theorem dX11_terms_86 : decode cX11_terms 86 = .ok (.ifCond .eq 10, 3) := by decide +kernel
theorem dX11_terms_89 : decode cX11_terms 89 = .ok (.aload_n 0, 1) := by decide +kernel
theorem dX11_terms_90 : decode cX11_terms 90 = .ok (.ldc 152, 2) := by decide +kernel
theorem dX11_terms_92 : decode cX11_terms 92 = .ok (.invokevirtual 65, 3) := by decide +kernel
theorem dX11_terms_95 : decode cX11_terms 95 = .ok (.ireturn, 1) := by decide +kernel
theorem dX11_terms_96 : decode cX11_terms 96 = .ok (.aload 6, 2) := by decide +kernel
theorem dX11_terms_98 : decode cX11_terms 98 = .ok (.iload_n 2, 1) := by decide +kernel
theorem dX11_terms_99 : decode cX11_terms 99 = .ok (.iload_n 3, 1) := by decide +kernel
theorem dX11_terms_100 : decode cX11_terms 100 = .ok (.iload 4, 2) := by decide +kernel
theorem dX11_terms_102 : decode cX11_terms 102 = .ok (.invokevirtual 153, 3) := by decide +kernel
theorem dX11_terms_105 : decode cX11_terms 105 = .ok (.iconst 1, 1) := by decide +kernel
theorem dX11_terms_106 : decode cX11_terms 106 = .ok (.ireturn, 1) := by decide +kernel
theorem dX11_span_0 : decode cX11_span 0 = .ok (.aload_n 0, 1) := by decide +kernel
theorem dX11_span_1 : decode cX11_span 1 = .ok (.getfield 19, 3) := by decide +kernel
theorem dX11_span_4 : decode cX11_span 4 = .ok (.iload_n 1, 1) := by decide +kernel
theorem dX11_span_5 : decode cX11_span 5 = .ok (.invokevirtual 136, 3) := by decide +kernel
theorem dX11_span_8 : decode cX11_span 8 = .ok (.ifCond .eq 37, 3) := by decide +kernel
theorem dX11_span_11 : decode cX11_span 11 = .ok (.iload_n 2, 1) := by decide +kernel
theorem dX11_span_12 : decode cX11_span 12 = .ok (.invokestatic 116, 3) := by decide +kernel
theorem dX11_span_15 : decode cX11_span 15 = .ok (.ifCond .eq 30, 3) := by decide +kernel
theorem dX11_span_18 : decode cX11_span 18 = .ok (.iload_n 3, 1) := by decide +kernel
theorem dX11_span_19 : decode cX11_span 19 = .ok (.invokestatic 116, 3) := by decide +kernel
theorem dX11_span_22 : decode cX11_span 22 = .ok (.ifCond .eq 23, 3) := by decide +kernel
theorem dX11_span_25 : decode cX11_span 25 = .ok (.iload_n 2, 1) := by decide +kernel
theorem dX11_span_26 : decode cX11_span 26 = .ok (.iload_n 3, 1) := by decide +kernel
theorem dX11_span_27 : decode cX11_span 27 = .ok (.if_icmp .gt 18, 3) := by decide +kernel
theorem dX11_span_30 : decode cX11_span 30 = .ok (.iload 4, 2) := by decide +kernel
theorem dX11_span_32 : decode cX11_span 32 = .ok (.iconst 0, 1) := by decide +kernel
theorem dX11_span_33 : decode cX11_span 33 = .ok (.bipush 63, 2) := by decide +kernel
theorem dX11_span_35 : decode cX11_span 35 = .ok (.invokestatic 60, 3) := by decide +kernel
theorem dX11_span_38 : decode cX11_span 38 = .ok (.ifCond .eq 7, 3) := by decide +kernel
theorem dX11_span_41 : decode cX11_span 41 = .ok (.iconst 1, 1) := by decide +kernel
theorem dX11_span_42 : decode cX11_span 42 = .ok (.goto 4, 3) := by decide +kernel
theorem dX11_span_45 : decode cX11_span 45 = .ok (.iconst 0, 1) := by decide +kernel
theorem dX11_span_46 : decode cX11_span 46 = .ok (.istore 5, 2) := by decide +kernel
theorem dX11_span_48 : decode cX11_span 48 = .ok (.iload 5, 2) := by decide +kernel
theorem dX11_span_50 : decode cX11_span 50 = .ok (.ifCond .ne 10, 3) := by decide +kernel
theorem dX11_span_53 : decode cX11_span 53 = .ok (.aload_n 0, 1) := by decide +kernel
theorem dX11_span_54 : decode cX11_span 54 = .ok (.ldc 64, 2) := by decide +kernel
theorem dX11_span_56 : decode cX11_span 56 = .ok (.invokevirtual 65, 3) := by decide +kernel
theorem dX11_span_59 : decode cX11_span 59 = .ok (.ireturn, 1) := by decide +kernel
theorem dX11_span_60 : decode cX11_span 60 = .ok (.aload_n 0, 1) := by decide +kernel
theorem dX11_span_61 : decode cX11_span 61 = .ok (.getfield 19, 3) := by decide +kernel
theorem dX11_span_64 : decode cX11_span 64 = .ok (.iload_n 1, 1) := by decide +kernel
theorem dX11_span_65 : decode cX11_span 65 = .ok (.invokevirtual 139, 3) := by decide +kernel
theorem dX11_span_68 : decode cX11_span 68 = .ok (.astore 6, 2) := by decide +kernel
theorem dX11_span_70 : decode cX11_span 70 = .ok (.aload 6, 2) := by decide +kernel
theorem dX11_span_72 : decode cX11_span 72 = .ok (.invokevirtual 148, 3) := by decide +kernel
theorem dX11_span_75 : decode cX11_span 75 = .ok (.ifCond .eq 10, 3) := by decide +kernel
theorem dX11_span_78 : decode cX11_span 78 = .ok (.aload_n 0, 1) := by decide +kernel
theorem dX11_span_79 : decode cX11_span 79 = .ok (.ldc 152, 2) := by decide +kernel
theorem dX11_span_81 : decode cX11_span 81 = .ok (.invokevirtual 65, 3) := by decide +kernel
theorem dX11_span_84 : decode cX11_span 84 = .ok (.ireturn, 1) := by decide +kernel
theorem dX11_span_85 : decode cX11_span 85 = .ok (.aload 6, 2) := by decide +kernel
theorem dX11_span_87 : decode cX11_span 87 = .ok (.iload_n 2, 1) := by decide +kernel
theorem dX11_span_88 : decode cX11_span 88 = .ok (.iload_n 3, 1) := by decide +kernel
theorem dX11_span_89 : decode cX11_span 89 = .ok (.iload 4, 2) := by decide +kernel
theorem dX11_span_91 : decode cX11_span 91 = .ok (.invokevirtual 157, 3) := by decide +kernel
theorem dX11_span_94 : decode cX11_span 94 = .ok (.iconst 1, 1) := by decide +kernel
theorem dX11_span_95 : decode cX11_span 95 = .ok (.ireturn, 1) := by decide +kernel
theorem dX11_as_0 : decode cX11_as 0 = .ok (.aload_n 0, 1) := by decide +kernel
theorem dX11_as_1 : decode cX11_as 1 = .ok (.getfield 19, 3) := by decide +kernel
theorem dX11_as_4 : decode cX11_as 4 = .ok (.iload_n 1, 1) := by decide +kernel
theorem dX11_as_5 : decode cX11_as 5 = .ok (.invokevirtual 136, 3) := by decide +kernel
theorem dX11_as_8 : decode cX11_as 8 = .ok (.ifCond .eq 10, 3) := by decide +kernel
theorem dX11_as_11 : decode cX11_as 11 = .ok (.iload_n 2, 1) := by decide +kernel
theorem dX11_as_12 : decode cX11_as 12 = .ok (.invokestatic 129, 3) := by decide +kernel
theorem dX11_as_15 : decode cX11_as 15 = .ok (.ifCond .ne 10, 3) := by decide +kernel
theorem dX11_as_18 : decode cX11_as 18 = .ok (.aload_n 0, 1) := by decide +kernel
theorem dX11_as_19 : decode cX11_as 19 = .ok (.ldc 64, 2) := by decide +kernel
theorem dX11_as_21 : decode cX11_as 21 = .ok (.invokevirtual 65, 3) := by decide +kernel
theorem dX11_as_24 : decode cX11_as 24 = .ok (.ireturn, 1) := by decide +kernel
theorem dX11_as_25 : decode cX11_as 25 = .ok (.aload_n 0, 1) := by decide +kernel
theorem dX11_as_26 : decode cX11_as 26 = .ok (.getfield 19, 3) := by decide +kernel
theorem dX11_as_29 : decode cX11_as 29 = .ok (.iload_n 1, 1) := by decide +kernel
theorem dX11_as_30 : decode cX11_as 30 = .ok (.invokevirtual 139, 3) := by decide +kernel
theorem dX11_as_33 : decode cX11_as 33 = .ok (.iload_n 2, 1) := by decide +kernel
theorem dX11_as_34 : decode cX11_as 34 = .ok (.invokevirtual 160, 3) := by decide +kernel
theorem dX11_as_37 : decode cX11_as 37 = .ok (.ifCond .eq 7, 3) := by decide +kernel
theorem dX11_as_40 : decode cX11_as 40 = .ok (.iload_n 1, 1) := by decide +kernel
theorem dX11_as_41 : decode cX11_as 41 = .ok (.goto 9, 3) := by decide +kernel
theorem dX11_as_44 : decode cX11_as 44 = .ok (.aload_n 0, 1) := by decide +kernel
theorem dX11_as_45 : decode cX11_as 45 = .ok (.ldc 163, 2) := by decide +kernel
theorem dX11_as_47 : decode cX11_as 47 = .ok (.invokevirtual 65, 3) := by decide +kernel
theorem dX11_as_50 : decode cX11_as 50 = .ok (.ireturn, 1) := by decide +kernel
theorem dX11_of_0 : decode cX11_of 0 = .ok (.aload_n 0, 1) := by decide +kernel
theorem dX11_of_1 : decode cX11_of 1 = .ok (.getfield 19, 3) := by decide +kernel
theorem dX11_of_4 : decode cX11_of 4 = .ok (.iload_n 1, 1) := by decide +kernel
theorem dX11_of_5 : decode cX11_of 5 = .ok (.invokevirtual 136, 3) := by decide +kernel
theorem dX11_of_8 : decode cX11_of 8 = .ok (.ifCond .eq 13, 3) := by decide +kernel
theorem dX11_of_11 : decode cX11_of 11 = .ok (.iload_n 2, 1) := by decide +kernel
theorem dX11_of_12 : decode cX11_of 12 = .ok (.iconst 0, 1) := by decide +kernel
theorem dX11_of_13 : decode cX11_of 13 = .ok (.bipush 17, 2) := by decide +kernel
theorem dX11_of_15 : decode cX11_of 15 = .ok (.invokestatic 60, 3) := by decide +kernel
theorem dX11_of_18 : decode cX11_of 18 = .ok (.ifCond .ne 10, 3) := by decide +kernel
theorem dX11_of_21 : decode cX11_of 21 = .ok (.aload_n 0, 1) := by decide +kernel
theorem dX11_of_22 : decode cX11_of 22 = .ok (.ldc 64, 2) := by decide +kernel
theorem dX11_of_24 : decode cX11_of 24 = .ok (.invokevirtual 65, 3) := by decide +kernel
theorem dX11_of_27 : decode cX11_of 27 = .ok (.ireturn, 1) := by decide +kernel
theorem dX11_of_28 : decode cX11_of 28 = .ok (.aload_n 0, 1) := by decide +kernel
theorem dX11_of_29 : decode cX11_of 29 = .ok (.getfield 19, 3) := by decide +kernel
theorem dX11_of_32 : decode cX11_of 32 = .ok (.iload_n 1, 1) := by decide +kernel
theorem dX11_of_33 : decode cX11_of 33 = .ok (.invokevirtual 139, 3) := by decide +kernel
theorem dX11_of_36 : decode cX11_of 36 = .ok (.astore_n 3, 1) := by decide +kernel
theorem dX11_of_37 : decode cX11_of 37 = .ok (.iload_n 2, 1) := by decide +kernel
theorem dX11_of_38 : decode cX11_of 38 = .ok (.bipush 10, 2) := by decide +kernel
theorem dX11_of_40 : decode cX11_of 40 = .ok (.if_icmp .gt 11, 3) := by decide +kernel
theorem dX11_of_43 : decode cX11_of 43 = .ok (.aload_n 3, 1) := by decide +kernel
theorem dX11_of_44 : decode cX11_of 44 = .ok (.iload_n 2, 1) := by decide +kernel
theorem dX11_of_45 : decode cX11_of 45 = .ok (.invokevirtual 164, 3) := by decide +kernel
theorem dX11_of_48 : decode cX11_of 48 = .ok (.goto 8, 3) := by decide +kernel
theorem dX11_of_51 : decode cX11_of 51 = .ok (.aload_n 3, 1) := by decide +kernel
theorem dX11_of_52 : decode cX11_of 52 = .ok (.iload_n 2, 1) := by decide +kernel
theorem dX11_of_53 : decode cX11_of 53 = .ok (.invokevirtual 167, 3) := by decide +kernel
theorem dX11_of_56 : decode cX11_of 56 = .ok (.ireturn, 1) := by decide +kernel
theorem dX11_places_0 : decode cX11_places 0 = .ok (.aload_n 0, 1) := by decide +kernel
theorem dX11_places_1 : decode cX11_places 1 = .ok (.getfield 19, 3) := by decide +kernel
theorem dX11_places_4 : decode cX11_places 4 = .ok (.iload_n 1, 1) := by decide +kernel
theorem dX11_places_5 : decode cX11_places 5 = .ok (.invokevirtual 136, 3) := by decide +kernel
theorem dX11_places_8 : decode cX11_places 8 = .ok (.ifCond .eq 21, 3) := by decide +kernel
theorem dX11_places_11 : decode cX11_places 11 = .ok (.aload_n 0, 1) := by decide +kernel
theorem dX11_places_12 : decode cX11_places 12 = .ok (.getfield 19, 3) := by decide +kernel
theorem dX11_places_15 : decode cX11_places 15 = .ok (.aload_n 0, 1) := by decide +kernel
theorem dX11_places_16 : decode cX11_places 16 = .ok (.getfield 15, 3) := by decide +kernel
theorem dX11_places_19 : decode cX11_places 19 = .ok (.iload_n 1, 1) := by decide +kernel
theorem dX11_places_20 : decode cX11_places 20 = .ok (.invokevirtual 170, 3) := by decide +kernel
theorem dX11_places_23 : decode cX11_places 23 = .ok (.getfield 174, 3) := by decide +kernel
theorem dX11_places_26 : decode cX11_places 26 = .ok (.goto 9, 3) := by decide +kernel
theorem dX11_places_29 : decode cX11_places 29 = .ok (.aload_n 0, 1) := by decide +kernel
theorem dX11_places_30 : decode cX11_places 30 = .ok (.ldc 64, 2) := by decide +kernel
theorem dX11_places_32 : decode cX11_places 32 = .ok (.invokevirtual 65, 3) := by decide +kernel
theorem dX11_places_35 : decode cX11_places 35 = .ok (.ireturn, 1) := by decide +kernel
theorem dX11_letIn_0 : decode cX11_letIn 0 = .ok (.aload_n 0, 1) := by decide +kernel
theorem dX11_letIn_1 : decode cX11_letIn 1 = .ok (.getfield 19, 3) := by decide +kernel
theorem dX11_letIn_4 : decode cX11_letIn 4 = .ok (.iload_n 1, 1) := by decide +kernel
theorem dX11_letIn_5 : decode cX11_letIn 5 = .ok (.invokevirtual 136, 3) := by decide +kernel
theorem dX11_letIn_8 : decode cX11_letIn 8 = .ok (.ifCond .ne 10, 3) := by decide +kernel
theorem dX11_letIn_11 : decode cX11_letIn 11 = .ok (.aload_n 0, 1) := by decide +kernel
theorem dX11_letIn_12 : decode cX11_letIn 12 = .ok (.ldc 64, 2) := by decide +kernel
theorem dX11_letIn_14 : decode cX11_letIn 14 = .ok (.invokevirtual 65, 3) := by decide +kernel
theorem dX11_letIn_17 : decode cX11_letIn 17 = .ok (.ireturn, 1) := by decide +kernel
theorem dX11_letIn_18 : decode cX11_letIn 18 = .ok (.aload_n 0, 1) := by decide +kernel
theorem dX11_letIn_19 : decode cX11_letIn 19 = .ok (.getfield 19, 3) := by decide +kernel
theorem dX11_letIn_22 : decode cX11_letIn 22 = .ok (.iload_n 1, 1) := by decide +kernel
theorem dX11_letIn_23 : decode cX11_letIn 23 = .ok (.invokevirtual 139, 3) := by decide +kernel
theorem dX11_letIn_26 : decode cX11_letIn 26 = .ok (.astore_n 2, 1) := by decide +kernel
theorem dX11_letIn_27 : decode cX11_letIn 27 = .ok (.aload_n 2, 1) := by decide +kernel
theorem dX11_letIn_28 : decode cX11_letIn 28 = .ok (.invokevirtual 148, 3) := by decide +kernel
theorem dX11_letIn_31 : decode cX11_letIn 31 = .ok (.ifCond .eq 10, 3) := by decide +kernel
theorem dX11_letIn_34 : decode cX11_letIn 34 = .ok (.aload_n 0, 1) := by decide +kernel
theorem dX11_letIn_35 : decode cX11_letIn 35 = .ok (.ldc 152, 2) := by decide +kernel
theorem dX11_letIn_37 : decode cX11_letIn 37 = .ok (.invokevirtual 65, 3) := by decide +kernel
theorem dX11_letIn_40 : decode cX11_letIn 40 = .ok (.ireturn, 1) := by decide +kernel
theorem dX11_letIn_41 : decode cX11_letIn 41 = .ok (.aload_n 0, 1) := by decide +kernel
theorem dX11_letIn_42 : decode cX11_letIn 42 = .ok (.getfield 19, 3) := by decide +kernel
theorem dX11_letIn_45 : decode cX11_letIn 45 = .ok (.aload_n 0, 1) := by decide +kernel
theorem dX11_letIn_46 : decode cX11_letIn 46 = .ok (.getfield 15, 3) := by decide +kernel
theorem dX11_letIn_49 : decode cX11_letIn 49 = .ok (.iload_n 1, 1) := by decide +kernel
theorem dX11_letIn_50 : decode cX11_letIn 50 = .ok (.invokevirtual 170, 3) := by decide +kernel
theorem dX11_letIn_53 : decode cX11_letIn 53 = .ok (.astore_n 3, 1) := by decide +kernel
theorem dX11_letIn_54 : decode cX11_letIn 54 = .ok (.iconst 0, 1) := by decide +kernel
theorem dX11_letIn_55 : decode cX11_letIn 55 = .ok (.istore 4, 2) := by decide +kernel
theorem dX11_letIn_57 : decode cX11_letIn 57 = .ok (.iload 4, 2) := by decide +kernel
theorem dX11_letIn_59 : decode cX11_letIn 59 = .ok (.aload_n 3, 1) := by decide +kernel
theorem dX11_letIn_60 : decode cX11_letIn 60 = .ok (.getfield 174, 3) := by decide +kernel
theorem dX11_letIn_63 : decode cX11_letIn 63 = .ok (.if_icmp .ge 84, 3) := by decide +kernel
theorem dX11_letIn_66 : decode cX11_letIn 66 = .ok (.aload_n 3, 1) := by decide +kernel
theorem dX11_letIn_67 : decode cX11_letIn 67 = .ok (.iload 4, 2) := by decide +kernel
theorem dX11_letIn_69 : decode cX11_letIn 69 = .ok (.invokevirtual 177, 3) := by decide +kernel
theorem dX11_letIn_72 : decode cX11_letIn 72 = .ok (.istore 5, 2) := by decide +kernel
theorem dX11_letIn_74 : decode cX11_letIn 74 = .ok (.aload_n 0, 1) := by decide +kernel
theorem dX11_letIn_75 : decode cX11_letIn 75 = .ok (.getfield 15, 3) := by decide +kernel
theorem dX11_letIn_78 : decode cX11_letIn 78 = .ok (.iload 5, 2) := by decide +kernel
theorem dX11_letIn_80 : decode cX11_letIn 80 = .ok (.invokestatic 180, 3) := by decide +kernel
theorem dX11_letIn_83 : decode cX11_letIn 83 = .ok (.invokevirtual 183, 3) := by decide +kernel
theorem dX11_letIn_86 : decode cX11_letIn 86 = .ok (.ifCond .eq 55, 3) := by decide +kernel
theorem dX11_letIn_89 : decode cX11_letIn 89 = .ok (.aload_n 0, 1) := by decide +kernel
theorem dX11_letIn_90 : decode cX11_letIn 90 = .ok (.getfield 26, 3) := by decide +kernel
theorem dX11_letIn_93 : decode cX11_letIn 93 = .ok (.aload_n 0, 1) := by decide +kernel
theorem dX11_letIn_94 : decode cX11_letIn 94 = .ok (.getfield 15, 3) := by decide +kernel
theorem dX11_letIn_97 : decode cX11_letIn 97 = .ok (.aload_n 2, 1) := by decide +kernel
theorem dX11_letIn_98 : decode cX11_letIn 98 = .ok (.iload 5, 2) := by decide +kernel
theorem dX11_letIn_100 : decode cX11_letIn 100 = .ok (.aload_n 2, 1) := by decide +kernel
theorem dX11_letIn_101 : decode cX11_letIn 101 = .ok (.getfield 186, 3) := by decide +kernel
theorem dX11_letIn_104 : decode cX11_letIn 104 = .ok (.invokevirtual 189, 3) := by decide +kernel
theorem dX11_letIn_107 : decode cX11_letIn 107 = .ok (.ifCond .eq 34, 3) := by decide +kernel
theorem dX11_letIn_110 : decode cX11_letIn 110 = .ok (.aload_n 0, 1) := by decide +kernel
theorem dX11_letIn_111 : decode cX11_letIn 111 = .ok (.getfield 26, 3) := by decide +kernel
theorem dX11_letIn_114 : decode cX11_letIn 114 = .ok (.aload_n 0, 1) := by decide +kernel
theorem dX11_letIn_115 : decode cX11_letIn 115 = .ok (.getfield 15, 3) := by decide +kernel
theorem dX11_letIn_118 : decode cX11_letIn 118 = .ok (.aload_n 2, 1) := by decide +kernel
theorem dX11_letIn_119 : decode cX11_letIn 119 = .ok (.iload 5, 2) := by decide +kernel
theorem dX11_letIn_121 : decode cX11_letIn 121 = .ok (.aload_n 2, 1) := by decide +kernel
theorem dX11_letIn_122 : decode cX11_letIn 122 = .ok (.getfield 186, 3) := by decide +kernel
theorem dX11_letIn_125 : decode cX11_letIn 125 = .ok (.invokevirtual 193, 3) := by decide +kernel
theorem dX11_letIn_128 : decode cX11_letIn 128 = .ok (.ifCond .eq 13, 3) := by decide +kernel
theorem dX11_letIn_131 : decode cX11_letIn 131 = .ok (.aload_n 0, 1) := by decide +kernel
theorem dX11_letIn_132 : decode cX11_letIn 132 = .ok (.aload_n 2, 1) := by decide +kernel
theorem dX11_letIn_133 : decode cX11_letIn 133 = .ok (.iload 5, 2) := by decide +kernel
theorem dX11_letIn_135 : decode cX11_letIn 135 = .ok (.invokevirtual 196, 3) := by decide +kernel
theorem dX11_letIn_138 : decode cX11_letIn 138 = .ok (.iload 4, 2) := by decide +kernel
theorem dX11_letIn_140 : decode cX11_letIn 140 = .ok (.ireturn, 1) := by decide +kernel
theorem dX11_letIn_141 : decode cX11_letIn 141 = .ok (.iinc 4 1, 3) := by decide +kernel
theorem dX11_letIn_144 : decode cX11_letIn 144 = .ok (.goto (-87), 3) := by decide +kernel
theorem dX11_letIn_147 : decode cX11_letIn 147 = .ok (.aload_n 0, 1) := by decide +kernel
theorem dX11_letIn_148 : decode cX11_letIn 148 = .ok (.ldc 105, 2) := by decide +kernel
theorem dX11_letIn_150 : decode cX11_letIn 150 = .ok (.invokevirtual 65, 3) := by decide +kernel
theorem dX11_letIn_153 : decode cX11_letIn 153 = .ok (.ireturn, 1) := by decide +kernel
theorem dX11_why_0 : decode cX11_why 0 = .ok (.aload_n 0, 1) := by decide +kernel
theorem dX11_why_1 : decode cX11_why 1 = .ok (.getfield 19, 3) := by decide +kernel
theorem dX11_why_4 : decode cX11_why 4 = .ok (.iload_n 1, 1) := by decide +kernel
theorem dX11_why_5 : decode cX11_why 5 = .ok (.invokevirtual 136, 3) := by decide +kernel
theorem dX11_why_8 : decode cX11_why 8 = .ok (.ifCond .ne 10, 3) := by decide +kernel
theorem dX11_why_11 : decode cX11_why 11 = .ok (.aload_n 0, 1) := by decide +kernel
theorem dX11_why_12 : decode cX11_why 12 = .ok (.ldc 64, 2) := by decide +kernel
theorem dX11_why_14 : decode cX11_why 14 = .ok (.invokevirtual 65, 3) := by decide +kernel
theorem dX11_why_17 : decode cX11_why 17 = .ok (.ireturn, 1) := by decide +kernel
theorem dX11_why_18 : decode cX11_why 18 = .ok (.aload_n 0, 1) := by decide +kernel
theorem dX11_why_19 : decode cX11_why 19 = .ok (.getfield 19, 3) := by decide +kernel
theorem dX11_why_22 : decode cX11_why 22 = .ok (.iload_n 1, 1) := by decide +kernel
theorem dX11_why_23 : decode cX11_why 23 = .ok (.invokevirtual 139, 3) := by decide +kernel
theorem dX11_why_26 : decode cX11_why 26 = .ok (.astore_n 2, 1) := by decide +kernel
theorem dX11_why_27 : decode cX11_why 27 = .ok (.aload_n 2, 1) := by decide +kernel
theorem dX11_why_28 : decode cX11_why 28 = .ok (.invokevirtual 148, 3) := by decide +kernel
theorem dX11_why_31 : decode cX11_why 31 = .ok (.ifCond .eq 10, 3) := by decide +kernel
theorem dX11_why_34 : decode cX11_why 34 = .ok (.aload_n 0, 1) := by decide +kernel
theorem dX11_why_35 : decode cX11_why 35 = .ok (.ldc 152, 2) := by decide +kernel
theorem dX11_why_37 : decode cX11_why 37 = .ok (.invokevirtual 65, 3) := by decide +kernel
theorem dX11_why_40 : decode cX11_why 40 = .ok (.ireturn, 1) := by decide +kernel
theorem dX11_why_41 : decode cX11_why 41 = .ok (.aload_n 0, 1) := by decide +kernel
theorem dX11_why_42 : decode cX11_why 42 = .ok (.getfield 19, 3) := by decide +kernel
theorem dX11_why_45 : decode cX11_why 45 = .ok (.aload_n 0, 1) := by decide +kernel
theorem dX11_why_46 : decode cX11_why 46 = .ok (.getfield 15, 3) := by decide +kernel
theorem dX11_why_49 : decode cX11_why 49 = .ok (.iload_n 1, 1) := by decide +kernel
theorem dX11_why_50 : decode cX11_why 50 = .ok (.invokevirtual 170, 3) := by decide +kernel
theorem dX11_why_53 : decode cX11_why 53 = .ok (.astore_n 3, 1) := by decide +kernel
theorem dX11_why_54 : decode cX11_why 54 = .ok (.aload_n 3, 1) := by decide +kernel
theorem dX11_why_55 : decode cX11_why 55 = .ok (.aload_n 0, 1) := by decide +kernel
theorem dX11_why_56 : decode cX11_why 56 = .ok (.getfield 15, 3) := by decide +kernel
theorem dX11_why_59 : decode cX11_why 59 = .ok (.invokevirtual 200, 3) := by decide +kernel
theorem dX11_why_62 : decode cX11_why 62 = .ok (.aload_n 3, 1) := by decide +kernel
theorem dX11_why_63 : decode cX11_why 63 = .ok (.getfield 174, 3) := by decide +kernel
theorem dX11_why_66 : decode cX11_why 66 = .ok (.ifCond .ne 5, 3) := by decide +kernel
theorem dX11_why_69 : decode cX11_why 69 = .ok (.iconst 1, 1) := by decide +kernel
theorem dX11_why_70 : decode cX11_why 70 = .ok (.ireturn, 1) := by decide +kernel
theorem dX11_why_71 : decode cX11_why 71 = .ok (.aload_n 3, 1) := by decide +kernel
theorem dX11_why_72 : decode cX11_why 72 = .ok (.getfield 204, 3) := by decide +kernel
theorem dX11_why_75 : decode cX11_why 75 = .ok (.ifCond .ne 7, 3) := by decide +kernel
theorem dX11_why_78 : decode cX11_why 78 = .ok (.iconst 2, 1) := by decide +kernel
theorem dX11_why_79 : decode cX11_why 79 = .ok (.goto 9, 3) := by decide +kernel
theorem dX11_why_82 : decode cX11_why 82 = .ok (.aload_n 0, 1) := by decide +kernel
theorem dX11_why_83 : decode cX11_why 83 = .ok (.aload_n 2, 1) := by decide +kernel
theorem dX11_why_84 : decode cX11_why 84 = .ok (.aload_n 3, 1) := by decide +kernel
theorem dX11_why_85 : decode cX11_why 85 = .ok (.invokevirtual 207, 3) := by decide +kernel
theorem dX11_why_88 : decode cX11_why 88 = .ok (.ireturn, 1) := by decide +kernel
theorem dX11_out_0 : decode cX11_out 0 = .ok (.aload_n 0, 1) := by decide +kernel
theorem dX11_out_1 : decode cX11_out 1 = .ok (.getfield 19, 3) := by decide +kernel
theorem dX11_out_4 : decode cX11_out 4 = .ok (.iload_n 1, 1) := by decide +kernel
theorem dX11_out_5 : decode cX11_out 5 = .ok (.invokevirtual 136, 3) := by decide +kernel
theorem dX11_out_8 : decode cX11_out 8 = .ok (.ifCond .ne 10, 3) := by decide +kernel
theorem dX11_out_11 : decode cX11_out 11 = .ok (.aload_n 0, 1) := by decide +kernel
theorem dX11_out_12 : decode cX11_out 12 = .ok (.ldc 64, 2) := by decide +kernel
theorem dX11_out_14 : decode cX11_out 14 = .ok (.invokevirtual 65, 3) := by decide +kernel
theorem dX11_out_17 : decode cX11_out 17 = .ok (.ireturn, 1) := by decide +kernel
theorem dX11_out_18 : decode cX11_out 18 = .ok (.aload_n 0, 1) := by decide +kernel
theorem dX11_out_19 : decode cX11_out 19 = .ok (.getfield 19, 3) := by decide +kernel
theorem dX11_out_22 : decode cX11_out 22 = .ok (.iload_n 1, 1) := by decide +kernel
theorem dX11_out_23 : decode cX11_out 23 = .ok (.invokevirtual 139, 3) := by decide +kernel
theorem dX11_out_26 : decode cX11_out 26 = .ok (.astore_n 2, 1) := by decide +kernel
theorem dX11_out_27 : decode cX11_out 27 = .ok (.aload_n 2, 1) := by decide +kernel
theorem dX11_out_28 : decode cX11_out 28 = .ok (.invokevirtual 148, 3) := by decide +kernel
theorem dX11_out_31 : decode cX11_out 31 = .ok (.ifCond .ne 10, 3) := by decide +kernel
theorem dX11_out_34 : decode cX11_out 34 = .ok (.aload_n 0, 1) := by decide +kernel
theorem dX11_out_35 : decode cX11_out 35 = .ok (.ldc 152, 2) := by decide +kernel
theorem dX11_out_37 : decode cX11_out 37 = .ok (.invokevirtual 65, 3) := by decide +kernel
theorem dX11_out_40 : decode cX11_out 40 = .ok (.ireturn, 1) := by decide +kernel
theorem dX11_out_41 : decode cX11_out 41 = .ok (.aload_n 0, 1) := by decide +kernel
theorem dX11_out_42 : decode cX11_out 42 = .ok (.aload_n 2, 1) := by decide +kernel
theorem dX11_out_43 : decode cX11_out 43 = .ok (.invokevirtual 211, 3) := by decide +kernel
theorem dX11_out_46 : decode cX11_out 46 = .ok (.iconst 1, 1) := by decide +kernel
theorem dX11_out_47 : decode cX11_out 47 = .ok (.ireturn, 1) := by decide +kernel
theorem dX11_wayOf_0 : decode cX11_wayOf 0 = .ok (.aload_n 0, 1) := by decide +kernel
theorem dX11_wayOf_1 : decode cX11_wayOf 1 = .ok (.getfield 19, 3) := by decide +kernel
theorem dX11_wayOf_4 : decode cX11_wayOf 4 = .ok (.iload_n 1, 1) := by decide +kernel
theorem dX11_wayOf_5 : decode cX11_wayOf 5 = .ok (.invokevirtual 136, 3) := by decide +kernel
theorem dX11_wayOf_8 : decode cX11_wayOf 8 = .ok (.ifCond .eq 7, 3) := by decide +kernel
theorem dX11_wayOf_11 : decode cX11_wayOf 11 = .ok (.iload_n 3, 1) := by decide +kernel
theorem dX11_wayOf_12 : decode cX11_wayOf 12 = .ok (.ifCond .ge 10, 3) := by decide +kernel
theorem dX11_wayOf_15 : decode cX11_wayOf 15 = .ok (.aload_n 0, 1) := by decide +kernel
theorem dX11_wayOf_16 : decode cX11_wayOf 16 = .ok (.ldc 64, 2) := by decide +kernel
theorem dX11_wayOf_18 : decode cX11_wayOf 18 = .ok (.invokevirtual 65, 3) := by decide +kernel
theorem dX11_wayOf_21 : decode cX11_wayOf 21 = .ok (.ireturn, 1) := by decide +kernel
theorem dX11_wayOf_22 : decode cX11_wayOf 22 = .ok (.aload_n 0, 1) := by decide +kernel
theorem dX11_wayOf_23 : decode cX11_wayOf 23 = .ok (.getfield 19, 3) := by decide +kernel
theorem dX11_wayOf_26 : decode cX11_wayOf 26 = .ok (.iload_n 1, 1) := by decide +kernel
theorem dX11_wayOf_27 : decode cX11_wayOf 27 = .ok (.invokevirtual 139, 3) := by decide +kernel
theorem dX11_wayOf_30 : decode cX11_wayOf 30 = .ok (.astore 4, 2) := by decide +kernel
theorem dX11_wayOf_32 : decode cX11_wayOf 32 = .ok (.aload 4, 2) := by decide +kernel
theorem dX11_wayOf_34 : decode cX11_wayOf 34 = .ok (.invokevirtual 148, 3) := by decide +kernel
theorem dX11_wayOf_37 : decode cX11_wayOf 37 = .ok (.ifCond .ne 10, 3) := by decide +kernel
theorem dX11_wayOf_40 : decode cX11_wayOf 40 = .ok (.aload_n 0, 1) := by decide +kernel
theorem dX11_wayOf_41 : decode cX11_wayOf 41 = .ok (.ldc 152, 2) := by decide +kernel
theorem dX11_wayOf_43 : decode cX11_wayOf 43 = .ok (.invokevirtual 65, 3) := by decide +kernel
theorem dX11_wayOf_46 : decode cX11_wayOf 46 = .ok (.ireturn, 1) := by decide +kernel
theorem dX11_wayOf_47 : decode cX11_wayOf 47 = .ok (.iload_n 2, 1) := by decide +kernel
theorem dX11_wayOf_48 : decode cX11_wayOf 48 = .ok (.ifCond .eq 19, 3) := by decide +kernel
theorem dX11_wayOf_51 : decode cX11_wayOf 51 = .ok (.aload 4, 2) := by decide +kernel
theorem dX11_wayOf_53 : decode cX11_wayOf 53 = .ok (.iconst 1, 1) := by decide +kernel
theorem dX11_wayOf_54 : decode cX11_wayOf 54 = .ok (.invokevirtual 160, 3) := by decide +kernel
theorem dX11_wayOf_57 : decode cX11_wayOf 57 = .ok (.ifCond .ne 10, 3) := by decide +kernel
theorem dX11_wayOf_60 : decode cX11_wayOf 60 = .ok (.aload_n 0, 1) := by decide +kernel
theorem dX11_wayOf_61 : decode cX11_wayOf 61 = .ok (.ldc 163, 2) := by decide +kernel
theorem dX11_wayOf_63 : decode cX11_wayOf 63 = .ok (.invokevirtual 65, 3) := by decide +kernel
theorem dX11_wayOf_66 : decode cX11_wayOf 66 = .ok (.ireturn, 1) := by decide +kernel
theorem dX11_wayOf_67 : decode cX11_wayOf 67 = .ok (.aload_n 0, 1) := by decide +kernel
theorem dX11_wayOf_68 : decode cX11_wayOf 68 = .ok (.getfield 15, 3) := by decide +kernel
theorem dX11_wayOf_71 : decode cX11_wayOf 71 = .ok (.aload 4, 2) := by decide +kernel
theorem dX11_wayOf_73 : decode cX11_wayOf 73 = .ok (.getfield 215, 3) := by decide +kernel
theorem dX11_wayOf_76 : decode cX11_wayOf 76 = .ok (.iload_n 2, 1) := by decide +kernel
theorem dX11_wayOf_77 : decode cX11_wayOf 77 = .ok (.ifCond .eq 14, 3) := by decide +kernel
theorem dX11_wayOf_80 : decode cX11_wayOf 80 = .ok (.aload 4, 2) := by decide +kernel
theorem dX11_wayOf_82 : decode cX11_wayOf 82 = .ok (.getfield 218, 3) := by decide +kernel
theorem dX11_wayOf_85 : decode cX11_wayOf 85 = .ok (.invokestatic 221, 3) := by decide +kernel
theorem dX11_wayOf_88 : decode cX11_wayOf 88 = .ok (.goto 11, 3) := by decide +kernel
theorem dX11_wayOf_91 : decode cX11_wayOf 91 = .ok (.aload 4, 2) := by decide +kernel
theorem dX11_wayOf_93 : decode cX11_wayOf 93 = .ok (.getfield 218, 3) := by decide +kernel
theorem dX11_wayOf_96 : decode cX11_wayOf 96 = .ok (.invokestatic 224, 3) := by decide +kernel
theorem dX11_wayOf_99 : decode cX11_wayOf 99 = .ok (.iload_n 3, 1) := by decide +kernel
theorem dX11_wayOf_100 : decode cX11_wayOf 100 = .ok (.invokevirtual 227, 3) := by decide +kernel
theorem dX11_wayOf_103 : decode cX11_wayOf 103 = .ok (.ireturn, 1) := by decide +kernel
theorem dX11_host_0 : decode cX11_host 0 = .ok (.aload_n 0, 1) := by decide +kernel
theorem dX11_host_1 : decode cX11_host 1 = .ok (.getfield 19, 3) := by decide +kernel
theorem dX11_host_4 : decode cX11_host 4 = .ok (.iload_n 1, 1) := by decide +kernel
theorem dX11_host_5 : decode cX11_host 5 = .ok (.invokevirtual 136, 3) := by decide +kernel
theorem dX11_host_8 : decode cX11_host 8 = .ok (.ifCond .ne 10, 3) := by decide +kernel
theorem dX11_host_11 : decode cX11_host 11 = .ok (.aload_n 0, 1) := by decide +kernel
theorem dX11_host_12 : decode cX11_host 12 = .ok (.ldc 64, 2) := by decide +kernel
theorem dX11_host_14 : decode cX11_host 14 = .ok (.invokevirtual 65, 3) := by decide +kernel
theorem dX11_host_17 : decode cX11_host 17 = .ok (.ireturn, 1) := by decide +kernel
theorem dX11_host_18 : decode cX11_host 18 = .ok (.aload_n 0, 1) := by decide +kernel
theorem dX11_host_19 : decode cX11_host 19 = .ok (.getfield 19, 3) := by decide +kernel
theorem dX11_host_22 : decode cX11_host 22 = .ok (.iload_n 1, 1) := by decide +kernel
theorem dX11_host_23 : decode cX11_host 23 = .ok (.invokevirtual 139, 3) := by decide +kernel
theorem dX11_host_26 : decode cX11_host 26 = .ok (.astore_n 2, 1) := by decide +kernel
theorem dX11_host_27 : decode cX11_host 27 = .ok (.aload_n 2, 1) := by decide +kernel
theorem dX11_host_28 : decode cX11_host 28 = .ok (.invokevirtual 148, 3) := by decide +kernel
theorem dX11_host_31 : decode cX11_host 31 = .ok (.ifCond .eq 13, 3) := by decide +kernel
theorem dX11_host_34 : decode cX11_host 34 = .ok (.aload_n 2, 1) := by decide +kernel
theorem dX11_host_35 : decode cX11_host 35 = .ok (.getfield 218, 3) := by decide +kernel
theorem dX11_host_38 : decode cX11_host 38 = .ok (.invokestatic 231, 3) := by decide +kernel
theorem dX11_host_41 : decode cX11_host 41 = .ok (.goto 9, 3) := by decide +kernel
theorem dX11_host_44 : decode cX11_host 44 = .ok (.aload_n 0, 1) := by decide +kernel
theorem dX11_host_45 : decode cX11_host 45 = .ok (.ldc 152, 2) := by decide +kernel
theorem dX11_host_47 : decode cX11_host 47 = .ok (.invokevirtual 65, 3) := by decide +kernel
theorem dX11_host_50 : decode cX11_host 50 = .ok (.ireturn, 1) := by decide +kernel
theorem dX11_load_0 : decode cX11_load 0 = .ok (.aload_n 0, 1) := by decide +kernel
theorem dX11_load_1 : decode cX11_load 1 = .ok (.getfield 15, 3) := by decide +kernel
theorem dX11_load_4 : decode cX11_load 4 = .ok (.iload_n 1, 1) := by decide +kernel
theorem dX11_load_5 : decode cX11_load 5 = .ok (.invokevirtual 88, 3) := by decide +kernel
theorem dX11_load_8 : decode cX11_load 8 = .ok (.ifCond .eq 22, 3) := by decide +kernel
theorem dX11_load_11 : decode cX11_load 11 = .ok (.iload_n 2, 1) := by decide +kernel
theorem dX11_load_12 : decode cX11_load 12 = .ok (.invokestatic 116, 3) := by decide +kernel
theorem dX11_load_15 : decode cX11_load 15 = .ok (.ifCond .eq 15, 3) := by decide +kernel
theorem dX11_load_18 : decode cX11_load 18 = .ok (.aload_n 0, 1) := by decide +kernel
theorem dX11_load_19 : decode cX11_load 19 = .ok (.getfield 26, 3) := by decide +kernel
theorem dX11_load_22 : decode cX11_load 22 = .ok (.iload_n 1, 1) := by decide +kernel
theorem dX11_load_23 : decode cX11_load 23 = .ok (.iload_n 2, 1) := by decide +kernel
theorem dX11_load_24 : decode cX11_load 24 = .ok (.invokevirtual 234, 3) := by decide +kernel
theorem dX11_load_27 : decode cX11_load 27 = .ok (.goto 9, 3) := by decide +kernel
theorem dX11_load_30 : decode cX11_load 30 = .ok (.aload_n 0, 1) := by decide +kernel
theorem dX11_load_31 : decode cX11_load 31 = .ok (.ldc 64, 2) := by decide +kernel
theorem dX11_load_33 : decode cX11_load 33 = .ok (.invokevirtual 65, 3) := by decide +kernel
theorem dX11_load_36 : decode cX11_load 36 = .ok (.ireturn, 1) := by decide +kernel
theorem dX11_fallRoom_0 : decode cX11_fallRoom 0 = .ok (.aload_n 0, 1) := by decide +kernel
theorem dX11_fallRoom_1 : decode cX11_fallRoom 1 = .ok (.getfield 15, 3) := by decide +kernel
theorem dX11_fallRoom_4 : decode cX11_fallRoom 4 = .ok (.iload_n 1, 1) := by decide +kernel
theorem dX11_fallRoom_5 : decode cX11_fallRoom 5 = .ok (.invokevirtual 88, 3) := by decide +kernel
theorem dX11_fallRoom_8 : decode cX11_fallRoom 8 = .ok (.ifCond .eq 22, 3) := by decide +kernel
theorem dX11_fallRoom_11 : decode cX11_fallRoom 11 = .ok (.iload_n 2, 1) := by decide +kernel
theorem dX11_fallRoom_12 : decode cX11_fallRoom 12 = .ok (.invokestatic 116, 3) := by decide +kernel
theorem dX11_fallRoom_15 : decode cX11_fallRoom 15 = .ok (.ifCond .eq 15, 3) := by decide +kernel
theorem dX11_fallRoom_18 : decode cX11_fallRoom 18 = .ok (.aload_n 0, 1) := by decide +kernel
theorem dX11_fallRoom_19 : decode cX11_fallRoom 19 = .ok (.getfield 26, 3) := by decide +kernel
theorem dX11_fallRoom_22 : decode cX11_fallRoom 22 = .ok (.iload_n 1, 1) := by decide +kernel
theorem dX11_fallRoom_23 : decode cX11_fallRoom 23 = .ok (.iload_n 2, 1) := by decide +kernel
theorem dX11_fallRoom_24 : decode cX11_fallRoom 24 = .ok (.invokevirtual 237, 3) := by decide +kernel
theorem dX11_fallRoom_27 : decode cX11_fallRoom 27 = .ok (.goto 9, 3) := by decide +kernel
theorem dX11_fallRoom_30 : decode cX11_fallRoom 30 = .ok (.aload_n 0, 1) := by decide +kernel
theorem dX11_fallRoom_31 : decode cX11_fallRoom 31 = .ok (.ldc 64, 2) := by decide +kernel
theorem dX11_fallRoom_33 : decode cX11_fallRoom 33 = .ok (.invokevirtual 65, 3) := by decide +kernel
theorem dX11_fallRoom_36 : decode cX11_fallRoom 36 = .ok (.ireturn, 1) := by decide +kernel
theorem dX11_work_0 : decode cX11_work 0 = .ok (.aload_n 0, 1) := by decide +kernel
theorem dX11_work_1 : decode cX11_work 1 = .ok (.getfield 15, 3) := by decide +kernel
theorem dX11_work_4 : decode cX11_work 4 = .ok (.iload_n 1, 1) := by decide +kernel
theorem dX11_work_5 : decode cX11_work 5 = .ok (.invokevirtual 240, 3) := by decide +kernel
theorem dX11_work_8 : decode cX11_work 8 = .ok (.ifCond .eq 22, 3) := by decide +kernel
theorem dX11_work_11 : decode cX11_work 11 = .ok (.iload_n 2, 1) := by decide +kernel
theorem dX11_work_12 : decode cX11_work 12 = .ok (.invokestatic 116, 3) := by decide +kernel
theorem dX11_work_15 : decode cX11_work 15 = .ok (.ifCond .eq 15, 3) := by decide +kernel
theorem dX11_work_18 : decode cX11_work 18 = .ok (.aload_n 0, 1) := by decide +kernel
theorem dX11_work_19 : decode cX11_work 19 = .ok (.getfield 26, 3) := by decide +kernel
theorem dX11_work_22 : decode cX11_work 22 = .ok (.iload_n 1, 1) := by decide +kernel
theorem dX11_work_23 : decode cX11_work 23 = .ok (.iload_n 2, 1) := by decide +kernel
theorem dX11_work_24 : decode cX11_work 24 = .ok (.invokevirtual 243, 3) := by decide +kernel
theorem dX11_work_27 : decode cX11_work 27 = .ok (.goto 9, 3) := by decide +kernel
theorem dX11_work_30 : decode cX11_work 30 = .ok (.aload_n 0, 1) := by decide +kernel
theorem dX11_work_31 : decode cX11_work 31 = .ok (.ldc 64, 2) := by decide +kernel
theorem dX11_work_33 : decode cX11_work 33 = .ok (.invokevirtual 65, 3) := by decide +kernel
theorem dX11_work_36 : decode cX11_work 36 = .ok (.ireturn, 1) := by decide +kernel
theorem dX11_spare_0 : decode cX11_spare 0 = .ok (.aload_n 0, 1) := by decide +kernel
theorem dX11_spare_1 : decode cX11_spare 1 = .ok (.getfield 15, 3) := by decide +kernel
theorem dX11_spare_4 : decode cX11_spare 4 = .ok (.iload_n 1, 1) := by decide +kernel
theorem dX11_spare_5 : decode cX11_spare 5 = .ok (.invokevirtual 88, 3) := by decide +kernel
theorem dX11_spare_8 : decode cX11_spare 8 = .ok (.ifCond .ne 10, 3) := by decide +kernel
theorem dX11_spare_11 : decode cX11_spare 11 = .ok (.aload_n 0, 1) := by decide +kernel
theorem dX11_spare_12 : decode cX11_spare 12 = .ok (.ldc 64, 2) := by decide +kernel
theorem dX11_spare_14 : decode cX11_spare 14 = .ok (.invokevirtual 65, 3) := by decide +kernel
theorem dX11_spare_17 : decode cX11_spare 17 = .ok (.ireturn, 1) := by decide +kernel
theorem dX11_spare_18 : decode cX11_spare 18 = .ok (.aload_n 0, 1) := by decide +kernel
theorem dX11_spare_19 : decode cX11_spare 19 = .ok (.getfield 26, 3) := by decide +kernel
theorem dX11_spare_22 : decode cX11_spare 22 = .ok (.aload_n 0, 1) := by decide +kernel
theorem dX11_spare_23 : decode cX11_spare 23 = .ok (.getfield 15, 3) := by decide +kernel
theorem dX11_spare_26 : decode cX11_spare 26 = .ok (.iload_n 1, 1) := by decide +kernel
theorem dX11_spare_27 : decode cX11_spare 27 = .ok (.iconst 0, 1) := by decide +kernel
theorem dX11_spare_28 : decode cX11_spare 28 = .ok (.invokevirtual 246, 3) := by decide +kernel
theorem dX11_spare_31 : decode cX11_spare 31 = .ok (.istore_n 2, 1) := by decide +kernel
theorem dX11_spare_32 : decode cX11_spare 32 = .ok (.iconst 1, 1) := by decide +kernel
theorem dX11_spare_33 : decode cX11_spare 33 = .ok (.istore_n 3, 1) := by decide +kernel
theorem dX11_spare_34 : decode cX11_spare 34 = .ok (.iload_n 3, 1) := by decide +kernel
theorem dX11_spare_35 : decode cX11_spare 35 = .ok (.bipush 24, 2) := by decide +kernel
theorem dX11_spare_37 : decode cX11_spare 37 = .ok (.if_icmp .ge 27, 3) := by decide +kernel
theorem dX11_spare_40 : decode cX11_spare 40 = .ok (.iload_n 2, 1) := by decide +kernel
theorem dX11_spare_41 : decode cX11_spare 41 = .ok (.aload_n 0, 1) := by decide +kernel
theorem dX11_spare_42 : decode cX11_spare 42 = .ok (.getfield 26, 3) := by decide +kernel
theorem dX11_spare_45 : decode cX11_spare 45 = .ok (.aload_n 0, 1) := by decide +kernel
theorem dX11_spare_46 : decode cX11_spare 46 = .ok (.getfield 15, 3) := by decide +kernel
theorem dX11_spare_49 : decode cX11_spare 49 = .ok (.iload_n 1, 1) := by decide +kernel
theorem dX11_spare_50 : decode cX11_spare 50 = .ok (.iload_n 3, 1) := by decide +kernel
theorem dX11_spare_51 : decode cX11_spare 51 = .ok (.invokevirtual 246, 3) := by decide +kernel
theorem dX11_spare_54 : decode cX11_spare 54 = .ok (.invokestatic 250, 3) := by decide +kernel
theorem dX11_spare_57 : decode cX11_spare 57 = .ok (.istore_n 2, 1) := by decide +kernel
theorem dX11_spare_58 : decode cX11_spare 58 = .ok (.iinc 3 1, 3) := by decide +kernel
theorem dX11_spare_61 : decode cX11_spare 61 = .ok (.goto (-27), 3) := by decide +kernel
theorem dX11_spare_64 : decode cX11_spare 64 = .ok (.iload_n 2, 1) := by decide +kernel
theorem dX11_spare_65 : decode cX11_spare 65 = .ok (.ireturn, 1) := by decide +kernel
theorem dX11_took_0 : decode cX11_took 0 = .ok (.iload_n 1, 1) := by decide +kernel
theorem dX11_took_1 : decode cX11_took 1 = .ok (.iconst (-1), 1) := by decide +kernel
theorem dX11_took_2 : decode cX11_took 2 = .ok (.if_icmp .eq 21, 3) := by decide +kernel
theorem dX11_took_5 : decode cX11_took 5 = .ok (.aload_n 0, 1) := by decide +kernel
theorem dX11_took_6 : decode cX11_took 6 = .ok (.getfield 15, 3) := by decide +kernel
theorem dX11_took_9 : decode cX11_took 9 = .ok (.iload_n 1, 1) := by decide +kernel
theorem dX11_took_10 : decode cX11_took 10 = .ok (.invokevirtual 88, 3) := by decide +kernel
theorem dX11_took_13 : decode cX11_took 13 = .ok (.ifCond .ne 10, 3) := by decide +kernel
theorem dX11_took_16 : decode cX11_took 16 = .ok (.aload_n 0, 1) := by decide +kernel
theorem dX11_took_17 : decode cX11_took 17 = .ok (.ldc 64, 2) := by decide +kernel
theorem dX11_took_19 : decode cX11_took 19 = .ok (.invokevirtual 65, 3) := by decide +kernel
theorem dX11_took_22 : decode cX11_took 22 = .ok (.ireturn, 1) := by decide +kernel
theorem dX11_took_23 : decode cX11_took 23 = .ok (.iload_n 1, 1) := by decide +kernel
theorem dX11_took_24 : decode cX11_took 24 = .ok (.iconst (-1), 1) := by decide +kernel
theorem dX11_took_25 : decode cX11_took 25 = .ok (.if_icmp .ne 13, 3) := by decide +kernel
theorem dX11_took_28 : decode cX11_took 28 = .ok (.aload_n 0, 1) := by decide +kernel
theorem dX11_took_29 : decode cX11_took 29 = .ok (.getfield 15, 3) := by decide +kernel
theorem dX11_took_32 : decode cX11_took 32 = .ok (.getfield 255, 3) := by decide +kernel
theorem dX11_took_35 : decode cX11_took 35 = .ok (.goto 14, 3) := by decide +kernel
theorem dX11_took_38 : decode cX11_took 38 = .ok (.aload_n 0, 1) := by decide +kernel
theorem dX11_took_39 : decode cX11_took 39 = .ok (.getfield 15, 3) := by decide +kernel
theorem dX11_took_42 : decode cX11_took 42 = .ok (.getfield 255, 3) := by decide +kernel
theorem dX11_took_45 : decode cX11_took 45 = .ok (.iconst 1, 1) := by decide +kernel
theorem dX11_took_46 : decode cX11_took 46 = .ok (.iload_n 1, 1) := by decide +kernel
theorem dX11_took_47 : decode cX11_took 47 = .ok (.ishl, 1) := by decide +kernel
theorem dX11_took_48 : decode cX11_took 48 = .ok (.ior, 1) := by decide +kernel
theorem dX11_took_49 : decode cX11_took 49 = .ok (.istore_n 2, 1) := by decide +kernel
theorem dX11_took_50 : decode cX11_took 50 = .ok (.iconst 0, 1) := by decide +kernel
theorem dX11_took_51 : decode cX11_took 51 = .ok (.istore_n 3, 1) := by decide +kernel
theorem dX11_took_52 : decode cX11_took 52 = .ok (.iconst 0, 1) := by decide +kernel
theorem dX11_took_53 : decode cX11_took 53 = .ok (.istore 4, 2) := by decide +kernel
theorem dX11_took_55 : decode cX11_took 55 = .ok (.iload 4, 2) := by decide +kernel
theorem dX11_took_57 : decode cX11_took 57 = .ok (.aload_n 0, 1) := by decide +kernel
theorem dX11_took_58 : decode cX11_took 58 = .ok (.getfield 19, 3) := by decide +kernel
theorem dX11_took_61 : decode cX11_took 61 = .ok (.getfield 132, 3) := by decide +kernel
theorem dX11_took_64 : decode cX11_took 64 = .ok (.if_icmp .ge 44, 3) := by decide +kernel
theorem dX11_took_67 : decode cX11_took 67 = .ok (.aload_n 0, 1) := by decide +kernel
theorem dX11_took_68 : decode cX11_took 68 = .ok (.getfield 19, 3) := by decide +kernel
theorem dX11_took_71 : decode cX11_took 71 = .ok (.iload 4, 2) := by decide +kernel
theorem dX11_took_73 : decode cX11_took 73 = .ok (.invokevirtual 139, 3) := by decide +kernel
theorem dX11_took_76 : decode cX11_took 76 = .ok (.astore 5, 2) := by decide +kernel
theorem dX11_took_78 : decode cX11_took 78 = .ok (.aload 5, 2) := by decide +kernel
theorem dX11_took_80 : decode cX11_took 80 = .ok (.invokevirtual 148, 3) := by decide +kernel
theorem dX11_took_83 : decode cX11_took 83 = .ok (.ifCond .eq 19, 3) := by decide +kernel
theorem dX11_took_86 : decode cX11_took 86 = .ok (.aload 5, 2) := by decide +kernel
theorem dX11_took_88 : decode cX11_took 88 = .ok (.iload_n 2, 1) := by decide +kernel
theorem dX11_took_89 : decode cX11_took 89 = .ok (.invokevirtual 258, 3) := by decide +kernel
theorem dX11_took_92 : decode cX11_took 92 = .ok (.ifCond .ne 10, 3) := by decide +kernel
theorem dX11_took_95 : decode cX11_took 95 = .ok (.iload_n 3, 1) := by decide +kernel
theorem dX11_took_96 : decode cX11_took 96 = .ok (.iconst 1, 1) := by decide +kernel
theorem dX11_took_97 : decode cX11_took 97 = .ok (.iload 4, 2) := by decide +kernel
theorem dX11_took_99 : decode cX11_took 99 = .ok (.ishl, 1) := by decide +kernel
theorem dX11_took_100 : decode cX11_took 100 = .ok (.ior, 1) := by decide +kernel
theorem dX11_took_101 : decode cX11_took 101 = .ok (.istore_n 3, 1) := by decide +kernel
theorem dX11_took_102 : decode cX11_took 102 = .ok (.iinc 4 1, 3) := by decide +kernel
theorem dX11_took_105 : decode cX11_took 105 = .ok (.goto (-50), 3) := by decide +kernel
theorem dX11_took_108 : decode cX11_took 108 = .ok (.iload_n 3, 1) := by decide +kernel
theorem dX11_took_109 : decode cX11_took 109 = .ok (.ireturn, 1) := by decide +kernel
theorem dX11_lay_0 : decode cX11_lay 0 = .ok (.aload_n 0, 1) := by decide +kernel
theorem dX11_lay_1 : decode cX11_lay 1 = .ok (.getfield 19, 3) := by decide +kernel
theorem dX11_lay_4 : decode cX11_lay 4 = .ok (.iload_n 1, 1) := by decide +kernel
theorem dX11_lay_5 : decode cX11_lay 5 = .ok (.invokevirtual 261, 3) := by decide +kernel
theorem dX11_lay_8 : decode cX11_lay 8 = .ok (.ifCond .ne 10, 3) := by decide +kernel
theorem dX11_lay_11 : decode cX11_lay 11 = .ok (.aload_n 0, 1) := by decide +kernel
theorem dX11_lay_12 : decode cX11_lay 12 = .ok (.ldc 64, 2) := by decide +kernel
theorem dX11_lay_14 : decode cX11_lay 14 = .ok (.invokevirtual 65, 3) := by decide +kernel
theorem dX11_lay_17 : decode cX11_lay 17 = .ok (.ireturn, 1) := by decide +kernel
theorem dX11_lay_18 : decode cX11_lay 18 = .ok (.aload_n 0, 1) := by decide +kernel
theorem dX11_lay_19 : decode cX11_lay 19 = .ok (.getfield 42, 3) := by decide +kernel
theorem dX11_lay_22 : decode cX11_lay 22 = .ok (.invokevirtual 264, 3) := by decide +kernel
theorem dX11_lay_25 : decode cX11_lay 25 = .ok (.aload_n 0, 1) := by decide +kernel
theorem dX11_lay_26 : decode cX11_lay 26 = .ok (.getfield 42, 3) := by decide +kernel
theorem dX11_lay_29 : decode cX11_lay 29 = .ok (.iload_n 1, 1) := by decide +kernel
theorem dX11_lay_30 : decode cX11_lay 30 = .ok (.invokevirtual 267, 3) := by decide +kernel
theorem dX11_lay_33 : decode cX11_lay 33 = .ok (.istore_n 2, 1) := by decide +kernel
theorem dX11_lay_34 : decode cX11_lay 34 = .ok (.aload_n 0, 1) := by decide +kernel
theorem dX11_lay_35 : decode cX11_lay 35 = .ok (.getfield 42, 3) := by decide +kernel
theorem dX11_lay_38 : decode cX11_lay 38 = .ok (.getfield 270, 3) := by decide +kernel
theorem dX11_lay_41 : decode cX11_lay 41 = .ok (.ifCond .eq 11, 3) := by decide +kernel
theorem dX11_lay_44 : decode cX11_lay 44 = .ok (.aload_n 0, 1) := by decide +kernel
theorem dX11_lay_45 : decode cX11_lay 45 = .ok (.ldc_w 274, 3) := by decide +kernel
theorem dX11_lay_48 : decode cX11_lay 48 = .ok (.invokevirtual 65, 3) := by decide +kernel
theorem dX11_lay_51 : decode cX11_lay 51 = .ok (.ireturn, 1) := by decide +kernel
theorem dX11_lay_52 : decode cX11_lay 52 = .ok (.iload_n 2, 1) := by decide +kernel
theorem dX11_lay_53 : decode cX11_lay 53 = .ok (.ifCond .eq 11, 3) := by decide +kernel
theorem dX11_lay_56 : decode cX11_lay 56 = .ok (.aload_n 0, 1) := by decide +kernel
theorem dX11_lay_57 : decode cX11_lay 57 = .ok (.iload_n 1, 1) := by decide +kernel
theorem dX11_lay_58 : decode cX11_lay 58 = .ok (.invokevirtual 275, 3) := by decide +kernel
theorem dX11_lay_61 : decode cX11_lay 61 = .ok (.goto 9, 3) := by decide +kernel
theorem dX11_lay_64 : decode cX11_lay 64 = .ok (.aload_n 0, 1) := by decide +kernel
theorem dX11_lay_65 : decode cX11_lay 65 = .ok (.ldc 105, 2) := by decide +kernel
theorem dX11_lay_67 : decode cX11_lay 67 = .ok (.invokevirtual 65, 3) := by decide +kernel
theorem dX11_lay_70 : decode cX11_lay 70 = .ok (.ireturn, 1) := by decide +kernel
theorem dX11_can_0 : decode cX11_can 0 = .ok (.aload_n 0, 1) := by decide +kernel
theorem dX11_can_1 : decode cX11_can 1 = .ok (.getfield 19, 3) := by decide +kernel
theorem dX11_can_4 : decode cX11_can 4 = .ok (.iload_n 1, 1) := by decide +kernel
theorem dX11_can_5 : decode cX11_can 5 = .ok (.invokevirtual 261, 3) := by decide +kernel
theorem dX11_can_8 : decode cX11_can 8 = .ok (.ifCond .ne 10, 3) := by decide +kernel
theorem dX11_can_11 : decode cX11_can 11 = .ok (.aload_n 0, 1) := by decide +kernel
theorem dX11_can_12 : decode cX11_can 12 = .ok (.ldc 64, 2) := by decide +kernel
theorem dX11_can_14 : decode cX11_can 14 = .ok (.invokevirtual 65, 3) := by decide +kernel
theorem dX11_can_17 : decode cX11_can 17 = .ok (.ireturn, 1) := by decide +kernel
theorem dX11_can_18 : decode cX11_can 18 = .ok (.aload_n 0, 1) := by decide +kernel
theorem dX11_can_19 : decode cX11_can 19 = .ok (.getfield 42, 3) := by decide +kernel
theorem dX11_can_22 : decode cX11_can 22 = .ok (.invokevirtual 264, 3) := by decide +kernel
theorem dX11_can_25 : decode cX11_can 25 = .ok (.aload_n 0, 1) := by decide +kernel
theorem dX11_can_26 : decode cX11_can 26 = .ok (.getfield 42, 3) := by decide +kernel
theorem dX11_can_29 : decode cX11_can 29 = .ok (.iload_n 1, 1) := by decide +kernel
theorem dX11_can_30 : decode cX11_can 30 = .ok (.invokevirtual 267, 3) := by decide +kernel
theorem dX11_can_33 : decode cX11_can 33 = .ok (.istore_n 2, 1) := by decide +kernel
theorem dX11_can_34 : decode cX11_can 34 = .ok (.aload_n 0, 1) := by decide +kernel
theorem dX11_can_35 : decode cX11_can 35 = .ok (.getfield 42, 3) := by decide +kernel
theorem dX11_can_38 : decode cX11_can 38 = .ok (.getfield 270, 3) := by decide +kernel
theorem dX11_can_41 : decode cX11_can 41 = .ok (.ifCond .eq 11, 3) := by decide +kernel
theorem dX11_can_44 : decode cX11_can 44 = .ok (.aload_n 0, 1) := by decide +kernel
theorem dX11_can_45 : decode cX11_can 45 = .ok (.ldc_w 274, 3) := by decide +kernel
